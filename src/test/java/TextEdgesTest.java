/** Each sentence of "Terms", part 1, and of promises 1 to 5 that names an edge, with answers of its own. */
public final class TextEdgesTest {
    private static final int NONE = -1;
    private static final int GAP = -1000000;
    private static final String WORDS = "deed place smell does path to case bar when pull day hears start age draw "
            + "or and not bones hour here";
    private static final String DEED = "deed a;";
    private static final String TWO = "deed a;place p smell 1 does a;place q smell 2 does a;";
    private static final String TABLE = "deed a;case c bar 1;";

    public static void main(String[] args) {
        newObject();
        feeding();
        feedingTooMuch();
        ending();
        wholeText();
        bytes();
        words();
        numbers();
        blanks();
        longest();
        letterBehindNumber();
        wordsThatAreNoNames();
        fullVillage();
        tooMany();
        toldAhead();
        unlikePlaces();
        eachWithEach();
        ranges();
        onceEach();
        grammar();
        cantStand();
        unitsInOne();
        within();
        firstByPlace();
        leastAtOnePlace();
        toldAlready();
        signOfValue();
        taken();
        allStays();
        faults();
        Check.end("TextEdgesTest");
    }

    // ---- promises 1 to 3

    private static void newObject() {
        Check.of("An empty VILLAGE");
        DogDecrees x = new DogDecrees();
        for (int what = 0; what <= 17; what++) {
            Check.due("about(" + what + ")", x.about(what), what == 4 ? NONE : what == 17 ? 8 : 0);
        }
        Check.due("place(0, 1)", x.place(0, 1), NONE);
        Check.due("hearing(0, 3)", x.hearing(0, 3), GAP);
        Check.due("table(0, 0)", x.table(0, 0), GAP);
        Check.due("draws(0)", x.draws(0), NONE);
        Check.due("hour()", x.hour(), NONE);
        Check.due("lay(0)", x.lay(0), NONE);
        Check.due("take(0)", x.take(0), NONE);
        Check.due("undo()", x.undo(), false);
        Check.due("redo()", x.redo(), false);
        Check.due("where(0, 0, 0)", x.where(0, 0, 0), NONE);
        Check.due("pass(0, 0, 0)", x.pass(0, 0, 0), NONE);
        Check.due("likely(0)", x.likely(0), NONE);
        Check.due("soon(0)", x.soon(0), NONE);
        Check.due("best(0, 1, 0, 0)", x.best(0, 1, 0, 0), NONE);
        Check.due("least(0, 1)", x.least(0, 1), NONE);
        Check.due("byTurns(0, 1, 0)", x.byTurns(0, 1, 0), NONE);
        Check.due("council(0, 0)", x.council(0, 0), NONE);
        Check.due("haunt()", x.haunt(), NONE);
        Check.due("walk(0)", x.walk(0), NONE);
        Check.due("fed(1)", x.fed(1), NONE);
        Check.due("lies(0)", x.lies(0), GAP);
        Check.due("count(0, 0, 0, 0, 0, 0)", x.count(0, 0, 0, 0, 0, 0), NONE);
        Check.due("untell(0)", x.untell(0), false);
        Check.due("meant(0, 0)", x.meant(0, 0), NONE);
        Check.due("sure(0, 0, 0)", x.sure(0, 0, 0), GAP);
        Check.due("ask(0, 0, 0)", x.ask(0, 0, 0), NONE);
        for (int box = 0; box < 3; box++) {
            Check.due("back(" + box + ")", x.back(box), NONE);
        }
        Check.due("later(0)", x.later(0), 0);
    }

    private static void feeding() {
        Check.of("of each number the highest first: how many there are");
        int[][] places = {{0, 24}, {0, 16}, {0, 8}, {0, 0}, {1, 24}, {1, 0}, {2, 24}, {2, 0}, {3, 24}, {3, 0}, {4, 24}, {4, 8}, {4, 0}};
        for (int[] at : places) {
            DogDecrees x = new DogDecrees();
            int[] numbers = new int[5];
            for (int i = 0; i < 5; i++) {
                numbers[i] = 0x20202020;
            }
            // a byte above 127 is no TOKEN, so its place is told by the FAULT
            numbers[at[0]] = numbers[at[0]] & ~(255 << at[1]) | 200 << at[1];
            Check.due("feed", x.feed(numbers[0], numbers[1], numbers[2], numbers[3], numbers[4]), 20);
            Check.due("village()", x.village(), NONE);
            Check.due("place of the byte", x.fault(1), at[0] * 4 + 3 - at[1] / 8);
        }
        Check.of("Twenty bytes come behind those on the TAPE");
        DogDecrees x = new DogDecrees();
        x.feed(0x64656564, 0x20207878, 0, 0, 0);
        x.end(6);
        Check.due("feed behind 6 bytes", x.feed(0x613b2020, 0x20202020, 0x20202020, 0x20202020, 0x20202020), 26);
        Check.due("village()", x.village(), 0);
        Check.due("its DEED", x.about(1), 1);
    }

    private static DogDecrees tapeOf(int length) {
        DogDecrees x = new DogDecrees();
        for (int i = 0; i < length; i += 20) {
            x.feed(0x20202020, 0x20202020, 0x20202020, 0x20202020, 0x20202020);
        }
        x.end(length);
        return x;
    }

    private static void feedingTooMuch() {
        Check.of("NONE, and nothing comes, if there would be more than 1,600");
        Check.due("feed at 1,579", tapeOf(1579).feed(0, 0, 0, 0, 0), 1599);
        Check.due("feed at 1,580", tapeOf(1580).feed(0, 0, 0, 0, 0), 1600);
        for (int length : new int[] {1581, 1590, 1599, 1600}) {
            DogDecrees x = tapeOf(length);
            Check.due("feed at " + length, x.feed(0, 0, 0, 0, 0), NONE);
            Check.due("bytes then", x.about(14), length);
            Check.due("feed once more", x.feed(0x20202020, 0, 0, 0, 0), NONE);
            Check.due("none but blanks came", x.village(), 0);
        }
    }

    private static void ending() {
        Check.of("The TAPE has its first n bytes: n");
        DogDecrees x = new DogDecrees();
        Check.due("end(0) of none", x.end(0), 0);
        Check.feed(x, Check.bytes("deed a;deed b;deed c;"));
        Check.due("end(21) of 21", x.end(21), 21);
        Check.due("end(14)", x.end(14), 14);
        Check.due("about(14)", x.about(14), 14);
        Check.due("village()", x.village(), 0);
        Check.due("its DEEDS", x.about(1), 2);
        Check.of("NONE, doing nothing, if it has not so many, or n is below 0");
        Check.due("end(1) of none", x.end(1), NONE);
        Check.feed(x, Check.bytes("deed a;deed b;deed c;"));
        for (int n : Check.outside(0, 21)) {
            Check.due("end(" + n + ") of 21", x.end(n), NONE);
        }
        Check.due("about(14)", x.about(14), 21);
        x.end(20);
        Check.due("end(21): what was cut off is gone", x.end(21), NONE);
        Check.due("village(): its last sign is gone", x.village(), NONE);
        Check.due("at the end", x.fault(1), 20);
        x = tapeOf(1600);
        Check.due("end(1600)", x.end(1600), 1600);
        Check.due("end(1601)", x.end(1601), NONE);
    }

    // ---- the text

    private static void wholeText() {
        Check.of("A VILLAGE is a text of at most 1,600 bytes (empty at first)");
        DogDecrees x = new DogDecrees();
        Check.due("an empty text", x.village(), 0);
        Check.due("1,600 bytes, the last one a sign", Check.tell(x, Check.times(" ", 1593) + "deed a;"), 0);
        Check.due("its DEED", x.about(1), 1);
        Check.fault(Check.times(" ", 1599) + "$", 1, 1599);
        Check.fault(Check.times("\n", 1596) + "deed", 2, 1600);
        Check.fault(Check.times(" ", 1594) + "deed a", 2, 1600);
        Check.fault(Check.times(" ", 1600), 0, NONE);
        Check.fault(Check.times(" ", 1592) + "abcdefgh", 2, 1592);
        Check.fault(Check.times(" ", 1592) + "day 1234", 4, 1596);
    }

    private static void bytes() {
        Check.of("signs ; ( ) < > = + - * / %; blanks (32, 10) part them or not");
        for (int b = 0; b < 256; b++) {
            boolean blank = b == 32 || b == 10;
            boolean token = b >= 'a' && b <= 'z' || b >= '0' && b <= '9' || b != 0 && ";()<>=+-*/%".indexOf(b) >= 0;
            Check.fault("deed a;" + (char) b, blank ? 0 : token ? 2 : 1, blank ? NONE : 7);
        }
    }

    private static void words() {
        Check.of("words (a .. z, 8 at most)");
        Check.fault("deed a;deed z;deed az;deed zzzzzzzz;", 0, NONE);
        Check.fault("deed abcdefgh;", 0, NONE);
        Check.fault("deed abcdefghi;", 1, 5);
        Check.fault("deed abcdefghijklmnopq;", 1, 5);
        Check.fault("abcdefgh;", 2, 0);
        Check.fault("abcdefghi;", 1, 0);
        Check.fault("deed abcdefgh;deed abcdefgi;", 0, NONE);
        Check.fault("deed abcdefgh;deed bbcdefgh;", 0, NONE);
        Check.fault("deed abcdefgh;deed abcdefg;", 0, NONE);
        Check.fault("deed abcdefgh;deed abcdefgh;", 3, 19);
        Check.fault("deed aaaaaaaa;deed aaaaaaa;deed aaa;deed a;", 0, NONE);
        Check.fault("deed zzzzzzzz;place y smell 0 does zzzzzzzz;", 0, NONE);
    }

    private static void numbers() {
        Check.of("N (1 to 4 digits)");
        Check.fault("day 1;age 01;draw 001;hears 0001;", 0, NONE);
        Check.fault("draw 00001;", 1, 5);
        Check.fault("draw 10000;", 1, 5);
        Check.fault("draw 12345678901234567890;", 1, 5);
        Check.fault("pull 9999;", 0, NONE);
        Check.fault("pull 0000;", 0, NONE);
        Check.fault("pull 00000;", 1, 5);
        Check.due("draw 0907", Check.village("draw 0907;").about(8), 907);
        Check.due("day 0010", Check.village("day 0010;").about(17), 10);
        Check.fault("deed ;", 2, 5);
        Check.fault("day ;", 2, 4);
    }

    private static void blanks() {
        Check.of("blanks (32, 10) part them or not");
        Check.fault("deed a;place p smell1does a;", 1, 20);
        Check.fault("deed a;place p smell1 does a;", 0, NONE);
        Check.fault(" \n deed \n\n a\n;\n \n", 0, NONE);
        Check.fault("\ndeed\na\n;\nplace\np\nsmell\n1\ndoes\na\n;\npull\n(\n1\n+\n2\n)\n;", 0, NONE);
        Check.fault("de ed a;", 2, 0);
        Check.fault("day 1 2;", 2, 6);
        Check.fault("day1;hears2;age3;draw4;pull(5)and not(6)or 7;", 0, NONE);
        Check.fault("deed a b;", 2, 7);
    }

    private static void longest() {
        Check.of("each is as long as can be");
        Check.fault("deeda;", 2, 0);
        Check.fault("deed deeds;", 0, NONE);
        Check.fault("deed dee;", 0, NONE);
        Check.fault("pull not1;", 0, NONE);
        Check.fault("pull nothere;", 2, 5);
        Check.fault("pull hereand 1;", 2, 5);
        Check.due("day 12 is not day 1", Check.village("day 12;").about(17), 12);
        Check.due("draw 999", Check.village("draw 999;").about(8), 999);
    }

    private static void letterBehindNumber() {
        Check.of("no letter directly behind an N");
        Check.fault("day 5x;", 1, 4);
        Check.fault("pull 1or 2;", 1, 5);
        Check.fault("pull 1 or2;", 0, NONE);
        Check.fault("pull 1234and 2;", 1, 5);
        Check.fault("pull 1\nor 2;", 0, NONE);
        Check.fault("pull 1z;", 1, 5);
        Check.fault("pull 1A;", 1, 6);
        Check.fault("pull(1)or(2);", 0, NONE);
    }

    private static void wordsThatAreNoNames() {
        Check.of("Words that stand for themselves here are no NAMES");
        String lines = TWO + "case c bar 1;";
        String[] slots = {"deed *;", "place * smell 1 does a;", "place r smell 1 does *;", "path * to p;", "path p to *;",
            "case * bar 1;", "when * c 1;", "when a * 1;", "start *;"};
        for (String word : WORDS.split(" ")) {
            for (String slot : slots) {
                Check.fault(lines + slot.replace("*", word), 2, lines.length() + slot.indexOf('*'));
            }
        }
        for (String name : "e v n both one sum term unit line name village deeds smells ors".split(" ")) {
            Check.fault("deed " + name + ";case " + name + " bar 1;place " + name + " smell 0 does " + name + ";", 0, NONE);
        }
    }

    // ---- how many of each sort

    private static String places(int n) {
        StringBuilder s = new StringBuilder("deed a;deed b;deed c;deed d;");
        for (int i = 0; i < n; i++) {
            s.append("place ").append((char) ('a' + i)).append(" smell ").append(i + 2).append(" does ")
                    .append((char) ('d' - i % 4)).append(';');
        }
        return s.toString();
    }

    /** Of 8 PLACES the first n PATHS: each to the next, then each to the next but one. */
    private static String paths(int n) {
        StringBuilder s = new StringBuilder();
        for (int i = 0; i < n; i++) {
            s.append("path ").append((char) ('a' + i % 8)).append(" to ").append((char) ('a' + (i + 1 + i / 8) % 8)).append(';');
        }
        return s.toString();
    }

    private static String cases(int n) {
        StringBuilder s = new StringBuilder();
        for (int i = 0; i < n; i++) {
            s.append("case ").append((char) ('w' + i)).append(" bar ").append(15 - i).append(';');
        }
        return s.toString();
    }

    private static String whens(int n) {
        StringBuilder s = new StringBuilder();
        for (int i = 0; i < n; i++) {
            s.append("when ").append((char) ('a' + i / 4)).append(' ').append((char) ('w' + i % 4)).append(' ')
                    .append(i % 7 - 3).append(';');
        }
        return s.toString();
    }

    private static final String ONCE = "pull 1" + "+1".repeat(29) + ";day 24;hears 23;start h;age 98;draw 997;";

    private static void fullVillage() {
        Check.of("numbered as told, each sort by itself");
        DogDecrees x = Check.village(places(8) + paths(16) + cases(4) + whens(16) + ONCE);
        int[] due = {8, 4, 4, 16, 7, 0, 0, 98, 997, 0, 0, 0, 0, 0, 0, 30, 0, 24};
        for (int what = 0; what < due.length; what++) {
            Check.due("about(" + what + ")", x.about(what), due[what]);
        }
        for (int p = 0; p < 8; p++) {
            int near = 1 << (p + 1) % 8 | 1 << (p + 7) % 8 | 1 << (p + 2) % 8 | 1 << (p + 6) % 8;
            Check.due("smell of " + p, x.place(p, 0), p + 2);
            Check.due("DEED of " + p, x.place(p, 2), 3 - p % 4);
            Check.due("PATHS of " + p, x.place(p, 3), near);
            Check.due("PULL of " + p, x.place(p, 4), 30);
        }
        for (int c = 0; c < 4; c++) {
            Check.due("bar of " + c, x.hearing(c, 1), 15 - c);
            for (int d = 0; d < 4; d++) {
                Check.due("table(" + d + ", " + c + ")", x.table(d, c), (d * 4 + c) % 7 - 3);
            }
        }
        // from h to a, b, f, g, h by 60 DRAWS of five like PULLS
        int[] draws = {12, 12, 0, 0, 0, 12, 12, 12};
        for (int p = 0; p < 8; p++) {
            Check.due("draws(" + p + ")", x.draws(p), draws[p]);
        }
        for (int p = 0; p < 8; p++) {
            Check.due("lay(" + p + ")", x.lay(p), 1);
        }
        Check.due("bones in all", x.about(9), 8);
        Check.due("place(8, 0)", x.place(8, 0), NONE);
        Check.due("hearing(4, 0)", x.hearing(4, 0), GAP);
        Check.due("table(4, 0)", x.table(4, 0), GAP);
        Check.due("table(0, 4)", x.table(0, 4), GAP);
    }

    private static void tooMany() {
        Check.of("At most 4 DEEDS");
        String deeds = "deed a;deed b;deed c;deed d;";
        Check.fault(deeds, 0, NONE);
        Check.fault(deeds + "deed e;", 2, deeds.length());
        Check.fault(deeds + "\ndeed $", 2, deeds.length() + 1);
        Check.of("8 PLACES");
        Check.fault(places(8), 0, NONE);
        Check.fault(places(8) + "place z smell 1 does a;", 2, places(8).length());
        Check.of("16 PATHS");
        String paths = places(8) + paths(16);
        Check.fault(paths, 0, NONE);
        Check.fault(paths + "path a to e;", 2, paths.length());
        Check.of("4 CASES");
        Check.fault(cases(4), 0, NONE);
        Check.fault(cases(4) + "case v bar 1;", 2, cases(4).length());
        Check.of("16 lines of when");
        String whens = deeds + cases(4) + whens(16);
        Check.fault(whens, 0, NONE);
        Check.fault(whens + "when a w 1;", 2, whens.length());
        Check.fault(whens + "when zz zz 9;", 2, whens.length());
        Check.of("one of a sort too many or a second time: at the line's first word");
        Check.fault(deeds + "deed a;", 2, deeds.length());
        Check.fault(paths + "path a to b;", 2, paths.length());
        Check.fault(cases(4) + "  case w bar 99;", 2, cases(4).length() + 2);
    }

    private static void toldAhead() {
        Check.of("a DEED told ahead");
        Check.fault("place p smell 1 does a;deed a;", 5, 21);
        Check.fault("deed a;place p smell 1 does b;deed b;", 5, 28);
        Check.of("two unlike PLACES told ahead");
        String one = "deed a;place p smell 1 does a;";
        Check.fault(one + "path p to q;place q smell 1 does a;", 5, one.length() + 10);
        Check.fault(one + "path q to p;place q smell 1 does a;", 5, one.length() + 5);
        Check.fault(one + "path q to q;", 5, one.length() + 5);
        Check.of("a DEED, a CASE, both told ahead");
        Check.fault("deed a;when a c 1;case c bar 1;", 5, 14);
        Check.fault("case c bar 1;when a c 1;deed a;", 5, 18);
        Check.fault("when a c 1;", 5, 5);
        Check.of("start (a PLACE told ahead; the first one)");
        Check.fault("deed a;start p;place p smell 1 does a;", 5, 13);
        Check.due("start not told", Check.village(TWO).about(4), 0);
        Check.due("start told", Check.village(TWO + "start q;").about(4), 1);
        Check.due("start told as the first one", Check.village(TWO + "start p;").about(4), 0);
        Check.due("start told between", Check.village("deed a;place p smell 1 does a;start p;place q smell 2 does a;").about(4), 0);
        Check.of("5 a NAME that nothing of the sort has");
        Check.fault("deed a;place p smell 1 does p;", 5, 28);
        Check.fault(TWO + "path a to q;", 5, TWO.length() + 5);
        Check.fault(TWO + "path p to a;", 5, TWO.length() + 10);
        Check.fault(TABLE + "when c c 1;", 5, TABLE.length() + 5);
        Check.fault(TABLE + "when a a 1;", 5, TABLE.length() + 7);
        Check.fault(TWO + "start a;", 5, TWO.length() + 6);
    }

    private static void unlikePlaces() {
        Check.of("each two once in whichever order");
        Check.fault(TWO + "path p to q;", 0, NONE);
        Check.fault(TWO + "path q to p;", 0, NONE);
        Check.fault(TWO + "path p to q;path p to q;", 3, TWO.length() + 22);
        Check.fault(TWO + "path p to q;path q to p;", 3, TWO.length() + 22);
        Check.of("a PATH of one to itself, one told already");
        Check.fault(TWO + "path p to p;", 3, TWO.length() + 10);
        Check.fault(TWO + "path q to q;", 3, TWO.length() + 10);
        Check.fault(TWO + "path q to\nq", 3, TWO.length() + 10);
        StringBuilder all = new StringBuilder(places(8));
        for (int i = 0; i < 15; i++) {
            // all of a .. f with one another: 15 PATHS
            int one = 0;
            int rest = i;
            while (rest >= 5 - one) {
                rest -= 5 - one;
                one++;
            }
            all.append("path ").append((char) ('a' + one)).append(" to ").append((char) ('b' + one + rest)).append(';');
        }
        Check.fault(all.toString(), 0, NONE);
        for (int one = 0; one < 6; one++) {
            for (int other = 0; other < 6; other++) {
                Check.fault(all + "path " + (char) ('a' + one) + " to " + (char) ('a' + other) + ";", 3, all.length() + 10);
            }
            Check.fault(all + "path " + (char) ('a' + one) + " to h;", 0, NONE);
        }
    }

    private static void eachWithEach() {
        Check.of("each with each once; -3 .. 3");
        String head = "deed a;deed b;deed c;deed d;" + cases(4);
        for (int i = 0; i < 16; i++) {
            String line = "when " + (char) ('a' + i / 4) + " " + (char) ('w' + i % 4) + " ";
            Check.fault(head + line + "1;" + line + "1;", 3, head.length() + 11 + 7);
            for (int j = 0; j < 16; j++) {
                if (j != i) {
                    Check.fault(head + line + "1;when " + (char) ('a' + j / 4) + " " + (char) ('w' + j % 4) + " 1;", 0, NONE);
                }
            }
        }
    }

    private static void range(String head, String word, int least, int most) {
        String line = head + word + " ";
        Check.fault(line + least + ";", 0, NONE);
        Check.fault(line + most + ";", 0, NONE);
        if (least > 0) {
            Check.fault(line + (least - 1) + ";", 4, line.length());
        }
        Check.fault(line + (most + 1) + ";", 4, line.length());
        if (most < 999) {
            Check.fault(line + "9999;", 4, line.length());
        }
        Check.fault(line + "-1;", 2, line.length());
        Check.fault(line + "x;", 2, line.length());
    }

    private static void ranges() {
        Check.of("smell 0 .. 9");
        String[] fine = {"0", "9", "09", "0009"};
        for (String n : fine) {
            Check.fault("deed a;place p smell " + n + " does a;", 0, NONE);
        }
        String[] wrong = {"10", "11", "100", "9999", "0010"};
        for (String n : wrong) {
            Check.fault("deed a;place p smell " + n + " does a;", 4, 21);
        }
        Check.of("bar 1 .. 15");
        range("case c ", "bar", 1, 15);
        Check.of("day (1 .. 24 HOURS; 8)");
        range("", "day", 1, 24);
        Check.due("day not told", Check.village("").about(17), 8);
        Check.of("hears (1 .. 24; 1)");
        range("", "hears", 1, 24);
        Check.of("age (0 .. 99; 0)");
        range("", "age", 0, 99);
        Check.due("age not told", Check.village(TWO).about(7), 0);
        Check.of("draw (0 .. 999; 0)");
        range("", "draw", 0, 999);
        Check.due("draw not told", Check.village(TWO).about(8), 0);
        Check.of("V = [-] N");
        for (int v = 0; v <= 3; v++) {
            Check.due("when " + v, Check.village(TABLE + "when a c " + v + ";").table(0, 0), v);
            Check.due("when -" + v, Check.village(TABLE + "when a c -" + v + ";").table(0, 0), -v);
            Check.due("when - " + v, Check.village(TABLE + "when a c - \n 000" + v + ";").table(0, 0), -v);
        }
        Check.fault(TABLE + "when a c +1;", 2, TABLE.length() + 9);
        Check.fault(TABLE + "when a c --1;", 2, TABLE.length() + 10);
        Check.fault(TABLE + "when a c -;", 2, TABLE.length() + 10);
        Check.fault(TABLE + "when a c ;", 2, TABLE.length() + 9);
        Check.fault(TABLE + "when a c 1 1;", 2, TABLE.length() + 11);
    }

    private static void onceEach() {
        Check.of("once each");
        String[] lines = {"pull 1;", "day 1;", "hears 1;", "start p;", "age 0;", "draw 0;"};
        for (String line : lines) {
            Check.fault(TWO + line, 0, NONE);
            Check.fault(TWO + line + line, 2, TWO.length() + line.length());
            for (String other : lines) {
                if (!other.equals(line)) {
                    Check.fault(TWO + line + other, 0, NONE);
                    Check.fault(TWO + line + other + line, 2, TWO.length() + line.length() + other.length());
                }
            }
        }
        Check.of("all as told");
        DogDecrees x = Check.village(places(8) + paths(16) + cases(4) + whens(16) + ONCE);
        Check.due("a second text", Check.tell(x, "deed a;place p smell 0 does a;place q smell 0 does a;case c bar 2;case d bar 1;"), 2);
        int[] due = {2, 1, 2, 0, 0, 0, 0, 0, 0, 0, 0, 0, 0, 0, 0, 0, 0, 8};
        for (int what = 0; what < due.length; what++) {
            Check.due("about(" + what + ") is as at first, or as told now", x.about(what), due[what]);
        }
        Check.due("no PATHS", x.place(0, 3) + x.place(1, 3), 0);
        Check.due("no pull", x.place(0, 4), 1);
        Check.due("no table", x.table(0, 0), 0);
        Check.due("bar", x.hearing(0, 1), 2);
        x.hour();
        Check.due("hears 1: the other CASE is HEARD", x.hearing(1, 3), 1);
    }

    // ---- formulas

    private static void grammar() {
        Check.of("e = both {or both}. both = one {and one}. one = not one | sum [(< | > | =) sum].");
        String[] fine = {"1", "1 or 2", "1 or 2 or 3", "1 and 2", "1 and 2 and 3", "1 and 2 or 3 and 4", "not 1", "not not 1", "1<2",
            "1>2", "1=2", "not 1<2", "not 1=2 and not 2>1 or not 3", "1<2 or 1>2 and 1=2"};
        for (String e : fine) {
            Check.fault("pull " + e + ";", 0, NONE);
        }
        String[] cut = {"1 or", "1 or 2 or", "1 and", "1 and 2 and", "not", "not not", "1<", "1>", "1=", "1 or not", "1 and not", "", "1+",
            "1-", "1*", "1/", "1%", "1+2*", "(", "((", "(1 or", "(not"};
        for (String e : cut) {
            Check.fault("pull " + e + ";", 2, 5 + e.length());
            Check.fault("pull " + e, 2, 5 + e.length());
            Check.fault("pull " + e + ")", 2, 5 + e.length());
        }
        Check.fault("pull or 1;", 2, 5);
        Check.fault("pull and 1;", 2, 5);
        Check.fault("pull 1<2<3;", 2, 8);
        Check.fault("pull 1=2>3;", 2, 8);
        Check.fault("pull 1 or or 2;", 2, 10);
        Check.fault("pull 1 not 2;", 2, 7);
        Check.fault("pull 1<not 2;", 2, 7);
        Check.of("sum = term {(+ | -) term}. term = unit {(* | / | %) unit}. unit = N | smell | bones | hour | age | here | ( e ).");
        String[] sums = {"1+2-3+4", "1*2/3%4", "1+2*3-4/5", "smell+bones+hour+age+here", "(1)", "((1)+(2))*(3 or not 4)", "(1<2)<(3<4)",
            "1+(not 2)"};
        for (String e : sums) {
            Check.fault("pull " + e + ";", 0, NONE);
        }
        Check.fault("pull -1;", 2, 5);
        Check.fault("pull +1;", 2, 5);
        Check.fault("pull 1+-1;", 2, 7);
        Check.fault("pull 1*+1;", 2, 7);
        Check.fault("pull 1+not 2;", 2, 7);
        Check.fault("pull 1 2;", 2, 7);
        Check.fault("pull 1(2);", 2, 6);
        Check.fault("pull (1)2;", 2, 8);
        Check.fault("pull ();", 2, 6);
        Check.fault("pull (1;", 2, 7);
        Check.fault("pull (1));", 2, 8);
        Check.fault("pull zz;", 2, 5);
        for (String word : "deed place does path to case bar when pull day hears start draw or and".split(" ")) {
            Check.fault("pull " + word + ";", 2, 5);
            Check.fault("pull 1+" + word + ";", 2, 7);
            Check.fault("pull (" + word + ";", 2, 6);
        }
    }

    private static void cantStand() {
        Check.of("2 one that can't stand there");
        String text = "deed a;place p smell 1 does a;place q smell 1 does a;path p to q;case c bar 1;when a c -1;"
                + "pull not(1 + smell)*2 < 3 and 4 or 5;day 1;hears 1;start p;age 1;draw 1;";
        int line = 0;
        for (int i = 0; i < text.length(); i++) {
            char c = text.charAt(i);
            boolean inWord = i > 0 && Character.isLetterOrDigit(c) && Character.isLetterOrDigit(text.charAt(i - 1));
            if (c != ' ' && !inWord && i > line) {
                // a line can't begin within another one, nor can the text end there
                Check.fault(text.substring(0, i) + " deed zz;", 2, i + 1);
                Check.fault(text.substring(0, i), 2, i);
                Check.fault(text.substring(0, i) + "$", 1, i);
            }
            line = c == ';' ? i + 1 : line;
        }
        Check.fault(text, 0, NONE);
        DogDecrees x = new DogDecrees();
        for (int time = 1; time <= 3; time++) {
            Check.due("all of it a " + time + ". time", Check.tell(x, text), 2);
            Check.due("but one sign a " + time + ". time", Check.tell(x, text.substring(0, text.length() - 1)), NONE);
        }
    }

    private static void unitsInOne() {
        Check.of("30 in one e");
        String thirty = "pull 1" + "+1".repeat(29);
        Check.fault(thirty + ";", 0, NONE);
        Check.due("units", Check.village(thirty + ";").about(15), 30);
        Check.of("a unit too many, what is within 7 others: at its first TOKEN, or the not");
        String[] joins = {"+", "-", "*", "/", "%", "<", "=", ">", " and ", " or "};
        String[] units = {"1", "smell", "bones", "hour", "age", "here", "(1)", "((1))"};
        for (String join : joins) {
            for (String unit : units) {
                Check.fault(thirty + join + unit + ";", 2, thirty.length() + join.length());
            }
        }
        Check.fault(thirty + " and not 1;", 2, thirty.length() + 9);
        Check.fault(thirty + "+;", 2, thirty.length() + 1);
        String inside = "pull (1" + "+1".repeat(28);
        Check.fault(inside + ");", 0, NONE);
        Check.due("units with a bracket", Check.village(inside + ");").about(15), 30);
        Check.fault(inside + ")*1;", 2, inside.length() + 2);
        Check.fault(inside + "+1);", 2, inside.length() + 1);
        String half = "pull (1" + "+1".repeat(13) + ")*(1" + "+1".repeat(13) + ")";
        Check.fault(half + ";", 0, NONE);
        Check.fault(half + "*1;", 2, half.length() + 1);
        Check.due("PULL of 30 within one another", Check.village(TWO + "pull "
                + "1+(".repeat(7) + "1" + "+1".repeat(15) + ")".repeat(7) + ";").place(0, 4), 23);
        Check.due("units of seven brackets", Check.village("pull " + "1+(".repeat(7) + "1" + "+1".repeat(15)
                + ")".repeat(7) + ";").about(15), 30);
    }

    private static void within() {
        Check.of("(a unit ( e ), or a one behind not, within 6 others at most)");
        // as many as can be: 30 units, each behind 7 nots
        String nots = "not ".repeat(7);
        String most = (nots + "0 and ").repeat(29) + nots;
        Check.due("not 0 seven times, thirty times", Check.village(TWO + "pull " + most + "0;").place(0, 4), 1);
        Check.due("not 1 the last time", Check.village(TWO + "pull " + most + "1;").place(0, 4), 0);
        String[] fine = {"(((((((1)))))))", "not not not not not not not 1", "not(not(not(not 1)))", "(not(not(not(1))))",
            "not not not((((1))))", "((((((not 1))))))", "(((((((1)))))))+(((((((2)))))))", "((((((not 1 and not 2))))))",
            "not not not not not not(1)", "(((((((1+1)))))))=1 and not not not not not not not 1"};
        for (String e : fine) {
            Check.fault("pull " + e + ";", 0, NONE);
        }
        Check.of("what is within 7 others: at its first TOKEN, or the not");
        Check.fault("pull ((((((((1))))))));", 2, 12);
        Check.fault("pull (((((((not 1)))))));", 2, 12);
        Check.fault("pull (((((((1+(1))))))));", 2, 14);
        Check.fault("pull (((((((1 and not 1)))))));", 2, 18);
        Check.fault("pull " + "not ".repeat(8) + "1;", 2, 33);
        Check.fault("pull " + "not ".repeat(7) + "(1);", 2, 33);
        Check.fault("pull " + "not ".repeat(7) + "1<(1);", 2, 35);
        Check.fault("pull " + "not ".repeat(7) + "1 and (1);", 0, NONE);
        Check.fault("pull " + "not(".repeat(4) + "1));", 2, 20);
        Check.fault("pull " + "(not ".repeat(4) + "1));", 2, 21);
        Check.fault("pull " + "(".repeat(200) + "1;", 2, 12);
        Check.fault("pull " + "not ".repeat(200) + "1;", 2, 33);
    }

    // ---- faults

    private static void firstByPlace() {
        Check.of("the first by its place (bytes from 0; the end: the text's length)");
        Check.fault("$", 1, 0);
        Check.fault("x", 2, 0);
        Check.fault("deed a;$", 1, 7);
        Check.fault("deed", 2, 4);
        Check.fault("deed \n ", 2, 7);
        Check.fault("deed a", 2, 6);
        Check.fault("deed a;place p smell 1 does a", 2, 29);
        Check.fault("pull 1+", 2, 7);
        Check.fault("pull (1", 2, 7);
        Check.fault("day 99;day $;", 4, 4);
        Check.fault("deed a;deed a;deed $", 3, 12);
        Check.fault("start p;$", 5, 6);
        Check.fault("deed a;place p smell 99 does z;", 4, 21);
        Check.fault(TABLE + "when z z 9;", 5, TABLE.length() + 5);
        Check.fault(TABLE + "when a c 9$", 4, TABLE.length() + 9);
        Check.fault(TABLE + "when a c -9x;", 1, TABLE.length() + 10);
        Check.fault("case c bar 16 $", 4, 11);
        Check.fault("deed a;deed a", 3, 12);
    }

    private static void leastAtOnePlace() {
        Check.of("at one place the least");
        String[] heads = {"", "deed ", "deed a", "deed a;place p smell ", "deed a;place p smell 1 does ", "case c bar ",
            TABLE + "when a c ", TABLE + "when a c -", "pull ", "pull 1", "pull 1+", "pull not ", "pull (", "day ", "start ",
            "pull 1" + "+1".repeat(29) + "+", "pull " + "(".repeat(7)};
        for (String head : heads) {
            Check.fault(head + "$", 1, head.length());
        }
        Check.fault("deed a;place p smell 10x", 1, 21);
        Check.fault("day 00000;", 1, 4);
        // a number where a NAME stands is 2, though nothing has it; a word where a number stands is 2, too
        Check.fault("deed 1;", 2, 5);
        Check.fault("start 99;", 2, 6);
        Check.fault("day deed;", 2, 4);
        Check.fault("deed a;place a smell a", 2, 21);
    }

    private static void toldAlready() {
        Check.of("3 a NAME told already (of its sort)");
        Check.fault("deed a;deed a;", 3, 12);
        Check.fault("deed a;deed b;deed c;deed c;", 3, 26);
        Check.fault(TWO + "place p smell 1 does a;", 3, TWO.length() + 6);
        Check.fault(TWO + "place q smell 1 does a;", 3, TWO.length() + 6);
        Check.fault("case c bar 1;case d bar 1;case c bar 1;", 3, 31);
        Check.fault("deed a;place a smell 1 does a;case a bar 1;when a a 1;start a;", 0, NONE);
        Check.of("a DEED with a CASE told already (each at the second NAME)");
        Check.fault(TABLE + "when a c 1;when a c 1;", 3, TABLE.length() + 18);
        Check.fault(TABLE + "when a c 0;when a\n c 9;", 3, TABLE.length() + 19);
    }

    private static void signOfValue() {
        Check.of("4 a number that can't be (of V at its sign, if it has one)");
        int at = TABLE.length() + 9;
        for (String n : new String[] {"4", "5", "10", "0004", "9999"}) {
            Check.fault(TABLE + "when a c " + n + ";", 4, at);
            Check.fault(TABLE + "when a c -" + n + ";", 4, at);
            Check.fault(TABLE + "when a c -  " + n + ";", 4, at);
            Check.fault(TABLE + "when a c   -" + n + ";", 4, at + 2);
        }
    }

    // ---- promises 4 and 5

    private static DogDecrees busy() {
        DogDecrees x = Check.village(TWO + "path p to q;case c bar 9;when a c 1;pull smell;day 3;draw 5;age 7;");
        x.lay(0);
        x.hour();
        x.lay(1);
        x.lay(1);
        x.undo();
        x.count(0, 0, 1, 0, 1, 2);
        x.later(9);
        x.best(0, 1, 1, 0);
        for (int box = 0; box < 3; box++) {
            x.image(box);
        }
        return x;
    }

    private static void taken() {
        Check.of("The TAPE (empty then) is the VILLAGE (all as told, the WALK is empty, no ACTS are kept, COUNTS are none, "
                + "nothing lies there, BOXES are empty then; the TIME stays): how many PLACES");
        for (String text : new String[] {"", TWO, TWO + "place r smell 1 does a;", places(8)}) {
            DogDecrees x = busy();
            Check.due("PLACES", Check.tell(x, text), text.split("place ").length - 1);
            Check.due("the TAPE", x.about(14), 0);
            Check.due("the WALK", x.walk(0), NONE);
            Check.due("ACTS to undo", x.about(10), 0);
            Check.due("ACTS to redo", x.about(11), 0);
            Check.due("undo()", x.undo(), false);
            Check.due("redo()", x.redo(), false);
            Check.due("COUNTS", x.about(12), 0);
            Check.due("untell(0)", x.untell(0), false);
            Check.due("what lies there", x.about(16), 0);
            Check.due("lies(0)", x.lies(0), GAP);
            for (int box = 0; box < 3; box++) {
                Check.due("BOX " + box, x.back(box), NONE);
            }
            Check.due("the TIME", x.about(13), 9);
            Check.due("HOURS", x.about(6), 0);
            Check.due("bones", x.about(9), 0);
            Check.due("the dog", x.about(4), text.isEmpty() ? NONE : 0);
        }
        DogDecrees x = Check.village("deed a;place p smell 1 does a;" + cases(4).replaceAll("bar ..", "bar 1")
                + "when a w 1;when a x -1;when a y 1;when a z -1;");
        for (int i = 0; i < 4; i++) {
            x.hour();
        }
        Check.tell(x, cases(4));
        for (int c = 0; c < 4; c++) {
            Check.due("SCORE", x.hearing(c, 0), 0);
            Check.due("OPEN", x.hearing(c, 2), 0);
        }
        x = busy();
        Check.tell(x, TWO + "case c bar 9;");
        Check.due("SCORE", x.hearing(0, 0), 0);
        Check.due("tables", x.meant(0, 9), 7);
        Check.due("a COUNT is the first again", x.count(0, 0, 1, 0, 1, 2), 0);
    }

    private static void allStays() {
        Check.of("NONE: a FAULT (all stays)");
        DogDecrees x = busy();
        DogDecrees y = busy();
        Check.due("a FAULT", Check.tell(x, "deed b;day 5;age 9;draw 8;pull 3;$"), NONE);
        for (int what = 0; what < 18; what++) {
            Check.due("about(" + what + ")", x.about(what), y.about(what));
        }
        for (int p = 0; p < 2; p++) {
            for (int what = 0; what < 5; what++) {
                Check.due("place(" + p + ", " + what + ")", x.place(p, what), y.place(p, what));
            }
            Check.due("walk(" + p + ")", x.walk(p), y.walk(p));
            Check.due("lies(" + p + ")", x.lies(p), y.lies(p));
        }
        for (int what = 0; what < 4; what++) {
            Check.due("hearing(0, " + what + ")", x.hearing(0, what), y.hearing(0, what));
        }
        Check.due("table(0, 0)", x.table(0, 0), y.table(0, 0));
        Check.due("meant(0, 9)", x.meant(0, 9), y.meant(0, 9));
        Check.due("redo()", x.redo(), true);
        Check.due("back(2)", x.back(2), 1);
        Check.due("hour()", x.hour(), y.hour());
        Check.due("a NAME of a text that was refused", Check.tell(x, TWO), 2);
        Check.due("DEEDS of the next one", x.about(1), 1);
    }

    private static void faults() {
        Check.of("Of the latest village() what 0: its FAULT (0), 1: its place (NONE). NONE for another what");
        DogDecrees x = new DogDecrees();
        Check.due("fault(0) ahead of all", x.fault(0), 0);
        Check.due("fault(1) ahead of all", x.fault(1), NONE);
        String[] texts = {"deed $", "deed deed;", "deed a;deed a;", "day 0;", "start p;"};
        int[] places = {5, 5, 12, 4, 6};
        for (int i = 0; i < texts.length; i++) {
            Check.due("village()", Check.tell(x, texts[i]), NONE);
            Check.due("fault(0)", x.fault(0), i + 1);
            Check.due("fault(1)", x.fault(1), places[i]);
            x.feed(0x20202020, 0, 0, 0, 0);
            x.end(0);
            x.hour();
            Check.due("fault(0) till the next village()", x.fault(0), i + 1);
            Check.due("fault(1) till the next village()", x.fault(1), places[i]);
            for (int what : Check.outside(0, 1)) {
                Check.due("fault(" + what + ")", x.fault(what), NONE);
            }
            Check.due("village() of none", x.village(), 0);
            Check.due("fault(0) then", x.fault(0), 0);
            Check.due("fault(1) then", x.fault(1), NONE);
        }
    }
}
