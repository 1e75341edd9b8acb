/** Each sentence of "Terms", part 2, and of promises 6 to 14, 24 and 33 to 35 that names an edge. */
public final class ActEdgesTest {
    private static final int NONE = -1;
    private static final int GAP = -1000000;
    private static final int MIN = Integer.MIN_VALUE;
    private static final String TWO = "deed a;deed b;place p smell 1 does a;place q smell 3 does b;path p to q;";
    private static final String ONE = "deed a;place p smell 1 does a;";
    private static final String EIGHT = "deed a;place a smell 1 does a;place b smell 1 does a;place c smell 1 does a;"
            + "place d smell 1 does a;place e smell 1 does a;place f smell 1 does a;place g smell 1 does a;place h smell 1 does a;";

    public static void main(String[] args) {
        whereItCanGo();
        pullIsNotTold();
        wrapping();
        byNothing();
        relations();
        least();
        quantities();
        eachDraw();
        noPulls();
        inEarnest();
        seeds();
        heard();
        open();
        bars();
        days();
        ages();
        nineBones();
        taking();
        placeArguments();
        hearingArguments();
        tableArguments();
        drawsArguments();
        hourRefused();
        undoing();
        redoing();
        forty();
        walking();
        imaging();
        goingBack();
        about();
        Check.end("ActEdgesTest");
    }

    // ---- PULL

    private static void whereItCanGo() {
        Check.of("From a PLACE the dog can go to it, and to those to which a PATH leads (both ways)");
        String row = "deed a;place p smell 1 does a;place q smell 1 does a;place r smell 1 does a;place s smell 1 does a;"
                + "path p to q;path r to q;";
        int[][] due = {{30, 30, 0, 0}, {20, 20, 20, 0}, {0, 30, 30, 0}, {0, 0, 0, 60}};
        for (int from = 0; from < 4; from++) {
            DogDecrees x = Check.village(row + "start " + "pqrs".charAt(from) + ";");
            for (int to = 0; to < 4; to++) {
                Check.due("draws from " + from + " to " + to, x.draws(to), due[from][to]);
            }
        }
    }

    /** The PULL of p, where the dog is, with 2 bones, in HOUR 1 at age 7. */
    private static int pull(String formula) {
        DogDecrees x = Check.village("deed a;place p smell 3 does a;age 7;pull " + formula + ";");
        x.hour();
        x.lay(0);
        x.lay(0);
        return x.place(0, 4);
    }

    private static void pullDue(String formula, int due) {
        Check.due("PULL by " + formula, pull(formula), due);
    }

    private static void pullIsNotTold() {
        Check.of("what comes of pull (1, if it is not told");
        DogDecrees x = Check.village(TWO);
        x.lay(1);
        Check.due("here", x.place(0, 4), 1);
        Check.due("there", x.place(1, 4), 1);
        Check.due("draws(0)", x.draws(0), 30);
        Check.due("units", x.about(15), 0);
    }

    private static final String LEAST_INT = "(0-2147*1000*1000-483*1000-648)";

    private static void wrapping() {
        Check.of("ints, wrapping");
        pullDue(LEAST_INT + "<0", 1);
        pullDue(LEAST_INT + "-1>0", 1);
        pullDue("0-" + LEAST_INT + "=" + LEAST_INT, 1);
        pullDue("0-(" + LEAST_INT + "+1)+1<0", 1);
        pullDue(LEAST_INT + "*2", 0);
        pullDue(LEAST_INT + "*2=0", 1);
        pullDue(LEAST_INT + "/(0-1)=" + LEAST_INT, 1);
        pullDue(LEAST_INT + "%(0-1)+5", 5);
        // 256 to the 4th is 0 as an int
        pullDue("256*256*256*256+7", 7);
        pullDue("256*256*256*128", 0);
        pullDue("256*256*256*128-1", 99);
    }

    private static void byNothing() {
        Check.of("/ cut, % its rest, both by 0: 0");
        pullDue("7/2", 3);
        pullDue("(0-7)/2+10", 7);
        pullDue("7/(0-2)+10", 7);
        pullDue("(0-7)/(0-2)", 3);
        pullDue("1/2", 0);
        pullDue("7%4", 3);
        pullDue("(0-7)%4+10", 7);
        pullDue("7%(0-4)+10", 13);
        pullDue("(0-7)%(0-4)+10", 7);
        pullDue("9/0", 0);
        pullDue("9/0+4", 4);
        pullDue("9%0+5", 5);
        pullDue("0/0+6", 6);
        pullDue("0%0+7", 7);
        pullDue("9/(smell-3)+8", 8);
    }

    private static void relations() {
        Check.of("relations, and, or, not are 1 or 0, of what is not 0");
        pullDue("3<3", 0);
        pullDue("2<3", 1);
        pullDue("3<2", 0);
        pullDue("3>3", 0);
        pullDue("3>2", 1);
        pullDue("2>3", 0);
        pullDue("3=3", 1);
        pullDue("3=2", 0);
        pullDue("0-1<0", 1);
        pullDue("0-1 and 0-2", 1);
        pullDue("(0-1 and 0)+5", 5);
        pullDue("0 or 0-1", 1);
        pullDue("0 or 0", 0);
        pullDue("7 or 0", 1);
        pullDue("7 and 8", 1);
        pullDue("0 and 8", 0);
        pullDue("not(0-1)", 0);
        pullDue("not 2", 0);
        pullDue("not 0", 1);
        pullDue("not not 9", 1);
        pullDue("(2<3)+(3>2)+(1=1)", 3);
    }

    private static void least() {
        Check.of("0 at least, 99 at most");
        pullDue("0-1", 0);
        pullDue("0-9999", 0);
        pullDue("0", 0);
        pullDue("1", 1);
        pullDue("98", 98);
        pullDue("99", 99);
        pullDue("100", 99);
        pullDue("9999*9999", 99);
        DogDecrees x = Check.village(TWO + "pull 200-67*smell;");
        Check.due("draws(0) by 133 (99) and -1 (0)", x.draws(0), 60);
        // 200 is 99: 99 of 165 are 36 of 60, 200 of 266 would be 46
        x = Check.village(TWO + "pull 200*(smell=1)+66*(smell=3);");
        Check.due("draws(0) by 99 of 165", x.draws(0), 36);
        x = Check.village(TWO + "pull 2-smell;");
        Check.due("draws(0) by 1 and what is below 0", x.draws(0), 60);
    }

    private static void quantities() {
        Check.of("by its smell, how many bones lie there, the HOUR of the DAY, the age, here (1 if the dog is there, else 0)");
        DogDecrees x = Check.village(TWO + "day 3;age 98;pull smell*10+bones;");
        x.lay(1);
        Check.due("smell, bones", x.place(0, 4), 10);
        Check.due("smell, bones of another", x.place(1, 4), 31);
        x = Check.village(TWO + "day 3;age 97;pull hour*30+age%30;");
        int[] due = {7, 37, 67, 8, 38, 68, 9, 39, 69, 9, 39, 69, 9};
        for (int hour = 0; hour < due.length; hour++) {
            Check.due("HOUR and age behind " + hour, x.place(1, 4), due[hour]);
            x.hour();
        }
        x = Check.village(TWO + "start q;pull 7+here;");
        Check.due("here: not there", x.place(0, 4), 7);
        Check.due("here: there", x.place(1, 4), 8);
    }

    // ---- DRAWS

    /** The SEED from which an HOUR's DRAW is this one: 137 times 73 is 1 modulo 1,000. */
    private static int seedFor(int draw) {
        return (draw + 929) * 73 % 1000;
    }

    private static void eachDraw() {
        Check.of("the first of these, by number, whose PULL and those ahead of it are together more than the DRAW times all "
                + "PULLS, by 60 (cut)");
        String three = "deed a;place p smell 1 does a;place q smell 2 does a;place r smell 4 does a;"
                + "path p to q;path q to r;path r to p;pull smell;";
        // of 7: DRAWS 0 .. 8 are below 1 * 60 / 7, 9 .. 25 below 3 * 60 / 7
        for (int draw = 0; draw < 60; draw++) {
            DogDecrees x = Check.village(three + "draw " + seedFor(draw) + ";");
            Check.due("hour() by DRAW " + draw, x.hour(), draw <= 8 ? 0 : draw <= 25 ? 1 : 2);
        }
        for (int draw : new int[] {0, 14, 15, 59}) {
            Check.due("by 1 of 4, DRAW " + draw, Check.village(TWO + "pull smell;draw " + seedFor(draw) + ";").hour(), draw < 15 ? 0 : 1);
            Check.due("by 0 and 3, DRAW " + draw, Check.village(TWO + "pull smell*(smell>1);draw " + seedFor(draw) + ";").hour(), 1);
            Check.due("by 1 and 0, DRAW " + draw, Check.village(TWO + "pull smell=1;draw " + seedFor(draw) + ";").hour(), 0);
        }
        // 99 and 1 of 100: all DRAWS are below 59.4
        Check.due("by 99 and 1", Check.village(TWO + "pull 148-49*smell;draw " + seedFor(59) + ";").hour(), 0);
        // 1 and 99 of 100: DRAW 0 alone is below 0.6
        String late = TWO + "pull 49*smell-48;draw ";
        Check.due("by 1 and 99, DRAW 0", Check.village(late + seedFor(0) + ";").hour(), 0);
        Check.due("by 1 and 99, DRAW 1", Check.village(late + seedFor(1) + ";").hour(), 1);
    }

    private static void noPulls() {
        Check.of("it stays, if all PULLS are 0");
        for (int draw : new int[] {0, 1, 30, 59}) {
            DogDecrees x = Check.village(TWO + "start q;pull 0-1;draw " + seedFor(draw) + ";");
            Check.due("draws(1)", x.draws(1), 60);
            Check.due("draws(0)", x.draws(0), 0);
            Check.due("hour() by DRAW " + draw, x.hour(), 1);
        }
        DogDecrees x = Check.village(EIGHT + "path h to a;path h to d;start h;pull 0;");
        for (int p = 0; p < 8; p++) {
            Check.due("draws(" + p + ") of eight", x.draws(p), p == 7 ? 60 : 0);
        }
        // they are 0 from HOUR 1 on: nothing of the DRAWS of HOUR 0 is left
        x = Check.village(TWO + "pull hour=0;");
        Check.due("draws(1) in HOUR 0", x.draws(1), 30);
        int at = x.hour();
        Check.due("draws of where it is in HOUR 1", x.draws(at), 60);
        Check.due("draws of where it is not in HOUR 1", x.draws(1 - at), 0);
        Check.tell(x, "deed a;place p smell 1 does a;place q smell 1 does a;");
        Check.due("draws(0) of another VILLAGE, without PATHS", x.draws(0), 60);
        Check.due("draws(1) of another VILLAGE, without PATHS", x.draws(1), 0);
        // all it can go to are 0, though another PLACE is not
        x = Check.village("deed a;place p smell 0 does a;place q smell 0 does a;place r smell 9 does a;path p to q;start q;pull smell;");
        Check.due("draws(1): what it can't go to does not count", x.draws(1), 60);
    }

    // ---- HOURS

    private static void inEarnest() {
        Check.of("In earnest there are the dog at the start, HOUR 0, bones nowhere, all CASES OPEN with a SCORE of 0, a SEED "
                + "(draw, at first)");
        DogDecrees x = Check.village(EIGHT + "start h;draw 123;case a bar 1;case b bar 2;case c bar 3;case d bar 4;");
        Check.due("the dog", x.about(4), 7);
        Check.due("the HOUR", x.about(5), 0);
        Check.due("HOURS that were", x.about(6), 0);
        Check.due("bones", x.about(9), 0);
        Check.due("the SEED", x.about(8), 123);
        for (int c = 0; c < 4; c++) {
            Check.due("SCORE", x.hearing(c, 0), 0);
            Check.due("OPEN", x.hearing(c, 2), 0);
        }
    }

    private static void seeds() {
        Check.of("the SEED becomes its 137-fold and 71 more, modulo 1,000");
        int[][] due = {{0, 71}, {6, 893}, {7, 30}, {817, 0}, {744, 999}, {999, 934}, {500, 571}};
        for (int[] d : due) {
            DogDecrees x = Check.village(ONE + "draw " + d[0] + ";");
            x.hour();
            Check.due("SEED behind " + d[0], x.about(8), d[1]);
        }
        Check.of("the dog goes by its rest by 60 as DRAW");
        // SEEDS 60 .. 119 are DRAWS 0 .. 59 again, and 960 .. 999 are 0 .. 39
        for (int seed : new int[] {59, 60, 61, 74, 75, 119, 120, 134, 135, 959, 960, 974, 975, 999}) {
            DogDecrees x = Check.village(TWO + "pull smell;draw " + seedFor(seed) + ";");
            Check.due("hour() by SEED " + seed, x.hour(), seed % 60 < 15 ? 0 : 1);
            Check.due("the SEED", x.about(8), seed);
        }
    }

    private static void heard() {
        Check.of("of the HOURS that were, by hears, cut, its rest by how many CASES there are");
        int[][] villages = {{1, 1}, {1, 2}, {2, 1}, {3, 2}, {4, 3}, {4, 5}, {3, 24}};
        for (int[] v : villages) {
            StringBuilder text = new StringBuilder(ONE + "hears " + v[1] + ";");
            for (int c = 0; c < v[0]; c++) {
                text.append("case ").append((char) ('a' + c)).append(" bar 1;");
            }
            DogDecrees x = Check.village(text.toString());
            for (int hours = 0; hours < 75; hours++) {
                int heard = 0;
                for (int c = 0; c < v[0]; c++) {
                    heard += x.hearing(c, 3) << c;
                }
                Check.due(v[0] + " CASES by " + v[1] + ": HEARD behind " + hours, heard, 1 << hours / v[1] % v[0]);
                x.hour();
            }
        }
        DogDecrees x = Check.village(ONE);
        Check.due("without CASES: hour()", x.hour(), 0);
        Check.due("without CASES: HEARD", x.hearing(0, 3), GAP);
        Check.of("as told by when (0, if not)");
        x = Check.village(ONE + "case c bar 1;case d bar 1;when a d 1;");
        x.hour();
        Check.due("c", x.hearing(0, 0), 0);
        Check.due("c stays OPEN", x.hearing(0, 2), 0);
        Check.due("d is not HEARD yet", x.hearing(1, 0), 0);
        x.hour();
        Check.due("d", x.hearing(1, 0), 1);
    }

    private static void open() {
        Check.of("if it is OPEN");
        DogDecrees x = Check.village(ONE + "case c bar 2;case d bar 2;when a c 1;when a d -1;");
        for (int i = 0; i < 12; i++) {
            x.hour();
        }
        Check.due("SCORE of c stays", x.hearing(0, 0), 2);
        Check.due("c is PASSED", x.hearing(0, 2), 1);
        Check.due("SCORE of d stays", x.hearing(1, 0), -2);
        Check.due("d is FALLEN", x.hearing(1, 2), 2);
        Check.due("c is HEARD all the same", x.hearing(0, 3), 1);
    }

    private static void bars() {
        Check.of("it is PASSED, if that is its bar at least, FALLEN, if it is the bar below 0 at most");
        for (int bar = 1; bar <= 15; bar++) {
            for (int v = -3; v <= 3; v++) {
                DogDecrees x = Check.village(ONE + "case c bar " + bar + ";when a c " + v + ";");
                int score = 0;
                for (int hours = 1; hours <= 16; hours++) {
                    x.hour();
                    score += Math.abs(score) < bar ? v : 0;
                    Check.due("SCORE by " + v + " to " + bar, x.hearing(0, 0), score);
                    Check.due("standing by " + v + " to " + bar, x.hearing(0, 2), score >= bar ? 1 : score <= -bar ? 2 : 0);
                }
            }
        }
    }

    private static void days() {
        Check.of("behind the last one of the DAY all bones are gone, the age is more by one (99 at most), and HOUR 0 begins");
        for (int day : new int[] {1, 2, 8, 23, 24}) {
            DogDecrees x = Check.village(TWO + "day " + day + ";age 97;");
            for (int hours = 1; hours <= Math.min(4 * day, 60); hours++) {
                x.lay(0);
                x.lay(1);
                boolean bonesLie = x.about(9) > 0;
                x.hour();
                Check.due("bones were", bonesLie, true);
                Check.due("day " + day + ": bones behind " + hours, x.about(9) == 0, hours % day == 0);
                Check.due("day " + day + ": HOUR behind " + hours, x.about(5), hours % day);
                Check.due("day " + day + ": age behind " + hours, x.about(7), Math.min(99, 97 + hours / day));
                Check.due("day " + day + ": HOURS that were", x.about(6), hours);
            }
        }
    }

    private static void ages() {
        Check.of("the age is more by one (99 at most)");
        for (int age : new int[] {0, 97, 98, 99}) {
            DogDecrees x = Check.village(ONE + "day 1;age " + age + ";pull age;");
            for (int hours = 0; hours < 4; hours++) {
                Check.due("age " + age + " behind " + hours, x.about(7), Math.min(99, age + hours));
                Check.due("PULL by it", x.place(0, 4), Math.min(99, age + hours));
                x.hour();
            }
        }
    }

    private static void nineBones() {
        Check.of("A bone is laid: how many lie there then; NONE, doing nothing, if one can't be, or there are 9");
        DogDecrees x = Check.village(EIGHT);
        for (int p : new int[] {7, 0}) {
            for (int n = 1; n <= 9; n++) {
                Check.due("lay(" + p + ")", x.lay(p), n);
            }
        }
        x.undo();
        x.lay(0);
        x.lay(3);
        x.undo();
        Check.due("lay(7) of 9", x.lay(7), NONE);
        Check.due("lay(0) of 9", x.lay(0), NONE);
        for (int p : Check.outside(0, 7)) {
            Check.due("lay(" + p + ")", x.lay(p), NONE);
        }
        Check.due("bones", x.about(9), 18);
        Check.due("ACTS to undo", x.about(10), 18);
        Check.due("ACTS to redo", x.about(11), 1);
        Check.due("redo()", x.redo(), true);
        Check.due("place(3, 1)", x.place(3, 1), 1);
        Check.due("lay(2) of two PLACES", Check.village(TWO).lay(2), NONE);
    }

    private static void taking() {
        Check.of("A bone is taken: how many lie there then; NONE, doing nothing, if there is none");
        DogDecrees x = Check.village(EIGHT);
        Check.due("take(0) of none", x.take(0), NONE);
        for (int i = 0; i < 9; i++) {
            x.lay(7);
        }
        for (int n = 8; n >= 0; n--) {
            Check.due("take(7)", x.take(7), n);
        }
        x.undo();
        x.take(7);
        x.lay(6);
        x.undo();
        Check.due("take(7) of none", x.take(7), NONE);
        for (int p : Check.outside(0, 7)) {
            Check.due("take(" + p + ")", x.take(p), NONE);
        }
        Check.due("bones", x.about(9), 0);
        Check.due("ACTS to undo", x.about(10), 18);
        Check.due("ACTS to redo", x.about(11), 1);
        Check.due("redo()", x.redo(), true);
        Check.due("place(6, 1)", x.place(6, 1), 1);
    }

    // ---- what is asked of PLACES and CASES

    private static void placeArguments() {
        Check.of("NONE if there is none such, or for another what");
        DogDecrees x = Check.village(EIGHT);
        for (int what = 0; what < 5; what++) {
            Check.due("place(7, " + what + ")", x.place(7, what) >= 0, true);
            for (int p : Check.outside(0, 7)) {
                Check.due("place(" + p + ", " + what + ")", x.place(p, what), NONE);
            }
        }
        for (int what : Check.outside(0, 4)) {
            Check.due("place(0, " + what + ")", x.place(0, what), NONE);
        }
        x = Check.village(ONE);
        Check.due("place(1, 0) of one", x.place(1, 0), NONE);
        Check.due("place(0, 3) without PATHS", x.place(0, 3), 0);
        Check.due("place(0, 0) without PLACES", Check.village("deed a;").place(0, 0), NONE);
        Check.of("PLACES to which a PATH leads, as bits");
        x = Check.village(EIGHT + "path h to a;path b to h;path g to h;");
        Check.due("of h", x.place(7, 3), 67);
        Check.due("of a", x.place(0, 3), 128);
        Check.due("of c", x.place(2, 3), 0);
    }

    private static void hearingArguments() {
        Check.of("GAP if there is none such, or for another what");
        DogDecrees x = Check.village(ONE + "case a bar 1;case b bar 1;case c bar 1;case d bar 15;");
        for (int what = 0; what < 4; what++) {
            Check.due("hearing(3, " + what + ")", x.hearing(3, what), what == 1 ? 15 : 0);
            for (int c : Check.outside(0, 3)) {
                Check.due("hearing(" + c + ", " + what + ")", x.hearing(c, what), GAP);
            }
        }
        for (int what : Check.outside(0, 3)) {
            Check.due("hearing(0, " + what + ")", x.hearing(0, what), GAP);
        }
        Check.due("hearing(1, 0) of one", Check.village("case a bar 1;").hearing(1, 0), GAP);
        Check.due("hearing(0, 3) without PLACES", Check.village("case a bar 1;").hearing(0, 3), 1);
    }

    private static void tableArguments() {
        Check.of("What a DEED counts for a CASE; GAP if one can't be");
        DogDecrees x = Check.village("deed a;deed b;deed c;deed d;case a bar 1;case b bar 1;case c bar 1;case d bar 1;"
                + "when d d -3;when a d 3;when d a 2;");
        Check.due("table(3, 3)", x.table(3, 3), -3);
        Check.due("table(0, 3)", x.table(0, 3), 3);
        Check.due("table(3, 0)", x.table(3, 0), 2);
        Check.due("table(0, 0)", x.table(0, 0), 0);
        for (int n : Check.outside(0, 3)) {
            Check.due("table(" + n + ", 0)", x.table(n, 0), GAP);
            Check.due("table(0, " + n + ")", x.table(0, n), GAP);
            Check.due("table(" + n + ", " + n + ")", x.table(n, n), GAP);
        }
        x = Check.village("deed a;case c bar 1;case d bar 1;when a d 1;");
        Check.due("table(1, 0) of one DEED", x.table(1, 0), GAP);
        Check.due("table(0, 2) of two CASES", x.table(0, 2), GAP);
        Check.due("table(0, 0) without DEEDS", Check.village("case c bar 1;").table(0, 0), GAP);
        Check.due("table(0, 0) without CASES", Check.village("deed a;").table(0, 0), GAP);
    }

    private static void drawsArguments() {
        Check.of("By how many of 60 DRAWS it goes to a PLACE now; NONE if there is none such");
        DogDecrees x = Check.village(EIGHT + "path a to h;");
        Check.due("draws(7)", x.draws(7), 30);
        Check.due("draws(6)", x.draws(6), 0);
        for (int p : Check.outside(0, 7)) {
            Check.due("draws(" + p + ")", x.draws(p), NONE);
        }
        Check.due("draws(1) of one", Check.village(ONE).draws(1), NONE);
        Check.due("draws(0) of one", Check.village(ONE).draws(0), 60);
        Check.due("draws(0) without PLACES", Check.village("deed a;").draws(0), NONE);
    }

    private static void hourRefused() {
        Check.of("An HOUR: the PLACE where it is then; NONE, doing nothing, behind 2,000, or without PLACES");
        DogDecrees x = Check.village("deed a;case c bar 1;when a c 1;draw 7;");
        Check.due("hour() without PLACES", x.hour(), NONE);
        Check.due("HOURS that were", x.about(6), 0);
        Check.due("the HOUR", x.about(5), 0);
        Check.due("the SEED", x.about(8), 7);
        Check.due("ACTS to undo", x.about(10), 0);
        Check.due("SCORE", x.hearing(0, 0), 0);
        x = Check.village(ONE);
        for (int i = 0; i < 1999; i++) {
            x.hour();
        }
        Check.due("hour() behind 1,999", x.hour(), 0);
        int seed = x.about(8);
        x.undo();
        x.redo();
        x.lay(0);
        x.undo();
        Check.due("hour() behind 2,000", x.hour(), NONE);
        Check.due("HOURS that were", x.about(6), 2000);
        Check.due("the SEED", x.about(8), seed);
        Check.due("what can be redone stays", x.about(11), 1);
    }

    // ---- UNDO, REDO

    private static void undoing() {
        Check.of("UNDO: true; false if there is none");
        DogDecrees x = Check.village(TWO + "draw 5;pull smell;day 2;case c bar 1;when a c -1;when b c 1;");
        Check.due("undo() of none", x.undo(), false);
        x.lay(0);
        x.hour();
        x.lay(1);
        x.hour();
        x.take(0);
        Check.due("redo() of none", x.redo(), false);
        // the DAY ends behind the 2nd HOUR, so there is no bone to take: take(0) was no ACT
        int[][] due = {{2, 1, 3}, {1, 1, 2}, {1, 0, 1}, {0, 0, 0}};
        for (int[] d : due) {
            Check.due("undo()", x.undo(), true);
            Check.due("bones", x.about(9), d[0]);
            Check.due("HOURS", x.about(6), d[1]);
            Check.due("ACTS to undo", x.about(10), d[2]);
            Check.due("ACTS to redo", x.about(11), 4 - d[2]);
        }
        Check.due("undo() of no more", x.undo(), false);
        Check.due("all is as at first: SEED", x.about(8), 5);
        Check.due("the dog", x.about(4), 0);
        Check.due("SCORE", x.hearing(0, 0), 0);
        Check.due("OPEN", x.hearing(0, 2), 0);
        Check.due("the WALK", x.walk(0), NONE);
        Check.due("nothing was done by the last undo()", x.about(11), 4);
        Check.of("UNDO takes back the latest ACT that was not");
        x = Check.village(ONE + "case a bar 1;case b bar 1;case c bar 1;case d bar 1;when a a 1;when a b -1;when a c 1;when a d -1;");
        for (int i = 0; i < 4; i++) {
            x.hour();
        }
        for (int c = 3; c >= 0; c--) {
            Check.due("standing of " + c, x.hearing(c, 2), 1 + c % 2);
            x.undo();
            Check.due("standing of " + c + " behind UNDO", x.hearing(c, 2), 0);
            Check.due("SCORE of " + c + " behind UNDO", x.hearing(c, 0), 0);
        }
        for (int c = 0; c < 4; c++) {
            x.redo();
            Check.due("standing of " + c + " behind REDO", x.hearing(c, 2), 1 + c % 2);
            Check.due("SCORE of " + c + " behind REDO", x.hearing(c, 0), 1 - c % 2 * 2);
        }
    }

    private static void redoing() {
        Check.of("REDO does that again which was taken back last (till another ACT)");
        DogDecrees x = Check.village(TWO + "draw 5;pull smell;");
        x.lay(0);
        x.lay(1);
        x.hour();
        x.undo();
        x.undo();
        Check.due("redo()", x.redo(), true);
        Check.due("the bone at q", x.place(1, 1), 1);
        Check.due("HOURS", x.about(6), 0);
        Check.due("redo()", x.redo(), true);
        Check.due("HOURS", x.about(6), 1);
        Check.due("the SEED", x.about(8), 756);
        Check.due("redo() of no more", x.redo(), false);
        String[] acts = {"hour", "lay", "take"};
        for (String act : acts) {
            DogDecrees y = Check.village(TWO);
            y.lay(0);
            y.lay(0);
            y.undo();
            if (act.equals("hour")) {
                y.hour();
            } else if (act.equals("lay")) {
                y.lay(1);
            } else {
                y.take(0);
            }
            Check.due("redo() behind another ACT: " + act, y.redo(), false);
            Check.due("ACTS to undo", y.about(10), 2);
            Check.due("ACTS to redo", y.about(11), 0);
        }
        Check.of("REDO: true; false if there is none");
        DogDecrees z = Check.village(TWO);
        Check.due("redo() of none", z.redo(), false);
        z.lay(0);
        z.undo();
        z.lay(9);
        z.take(1);
        z.later(1);
        z.image(0);
        z.best(0, 1, 1, 0);
        z.village();
        Check.due("redo() behind a new VILLAGE", z.redo(), false);
        z = Check.village(TWO);
        z.lay(0);
        z.undo();
        z.lay(9);
        z.take(1);
        z.image(0);
        z.draws(0);
        z.likely(3);
        Check.due("redo() behind what is no ACT", z.redo(), true);
        Check.due("the bone", z.place(0, 1), 1);
    }

    private static void forty() {
        Check.of("40 at most are kept, the oldest go");
        for (int acts : new int[] {39, 40, 41, 100}) {
            DogDecrees x = Check.village(ONE + "day 24;");
            for (int i = 0; i < acts; i++) {
                x.hour();
            }
            int kept = Math.min(40, acts);
            Check.due("ACTS to undo of " + acts, x.about(10), kept);
            for (int i = 1; i <= kept; i++) {
                Check.due("undo()", x.undo(), true);
                Check.due("HOURS", x.about(6), acts - i);
            }
            Check.due("undo() of the oldest", x.undo(), false);
            Check.due("HOURS", x.about(6), acts - kept);
            Check.due("ACTS to redo", x.about(11), kept);
            for (int i = 1; i <= kept; i++) {
                Check.due("redo()", x.redo(), true);
                Check.due("HOURS", x.about(6), acts - kept + i);
            }
            Check.due("redo() of no more", x.redo(), false);
        }
        DogDecrees x = Check.village(ONE + "day 24;");
        for (int i = 0; i < 50; i++) {
            x.hour();
        }
        for (int i = 0; i < 15; i++) {
            x.undo();
        }
        for (int i = 0; i < 20; i++) {
            x.lay(0);
            x.take(0);
        }
        Check.due("ACTS to undo: 25 and 40 more", x.about(10), 40);
        for (int i = 0; i < 40; i++) {
            x.undo();
        }
        Check.due("undo() of the oldest", x.undo(), false);
        Check.due("HOURS", x.about(6), 35);
    }

    // ---- WALK, BOXES

    private static void walking() {
        Check.of("The i-th PLACE of the WALK (0: the latest); NONE if there is none such");
        DogDecrees x = Check.village(TWO + "draw 5;pull smell;");
        Check.due("walk(0) of none", x.walk(0), NONE);
        int[] came = new int[75];
        for (int hours = 1; hours <= 75; hours++) {
            came[hours - 1] = x.hour();
            int last = Math.min(hours, 60) - 1;
            Check.due("walk(0) behind " + hours, x.walk(0), came[hours - 1]);
            Check.due("walk(" + last + ") behind " + hours, x.walk(last), came[hours - 1 - last]);
            Check.due("walk(" + (last + 1) + ") behind " + hours, x.walk(last + 1), NONE);
        }
        for (int i : Check.outside(0, 59)) {
            Check.due("walk(" + i + ")", x.walk(i), NONE);
        }
        for (int i = 0; i < 60; i++) {
            Check.due("walk(" + i + ")", x.walk(i), came[74 - i]);
        }
        Check.of("PLACES to which it came in the latest 60 HOURS");
        for (int i = 0; i < 10; i++) {
            x.undo();
        }
        for (int i = 0; i < 60; i++) {
            Check.due("walk(" + i + ") behind UNDO", x.walk(i), came[64 - i]);
        }
        Check.due("walk(60) behind UNDO", x.walk(60), NONE);
        x.lay(0);
        Check.due("a bone is no PLACE of it", x.walk(0), came[64]);
    }

    private static void imaging() {
        Check.of("are kept in a BOX 0 .. 2: HOURS that were; NONE if there is none such");
        DogDecrees x = Check.village(ONE);
        for (int box = 0; box < 3; box++) {
            Check.due("image(" + box + ")", x.image(box), box);
            x.hour();
        }
        for (int box : Check.outside(0, 2)) {
            Check.due("image(" + box + ")", x.image(box), NONE);
        }
        for (int box = 0; box < 3; box++) {
            Check.due("back(" + box + ")", x.back(box), box);
            Check.due("HOURS", x.about(6), box);
        }
        x.image(0);
        Check.due("a BOX kept anew", x.back(0), 2);
        Check.due("another one stays", x.back(1), 1);
    }

    private static void goingBack() {
        Check.of("All is as it was kept (no ACTS are kept then): HOURS that were; NONE, doing nothing, if nothing was");
        DogDecrees x = Check.village(TWO + "draw 5;pull smell+bones;day 5;age 98;case c bar 1;case d bar 1;when a c -1;when b c 1;when b d -1;");
        for (int box = 0; box < 3; box++) {
            Check.due("back(" + box + ") of none", x.back(box), NONE);
        }
        for (int i = 0; i < 63; i++) {
            x.hour();
        }
        x.lay(1);
        x.lay(0);
        x.undo();
        x.image(1);
        Check.due("an image is no ACT", x.about(11), 1);
        for (int box : new int[] {0, 2, 3, -1, 33, MIN}) {
            Check.due("back(" + box + ")", x.back(box), NONE);
        }
        Check.due("nothing was done: undo", x.about(10), 39);
        Check.due("nothing was done: redo", x.about(11), 1);
        DogDecrees y = Check.village(TWO + "draw 5;pull smell+bones;day 5;age 98;case c bar 1;case d bar 1;when a c -1;when b c 1;when b d -1;");
        for (int i = 0; i < 63; i++) {
            y.hour();
        }
        y.lay(1);
        for (int i = 0; i < 9; i++) {
            x.hour();
        }
        Check.due("back(1)", x.back(1), 63);
        for (int what = 0; what <= 9; what++) {
            Check.due("about(" + what + ")", x.about(what), y.about(what));
        }
        for (int i = 0; i <= 60; i++) {
            Check.due("walk(" + i + ")", x.walk(i), y.walk(i));
        }
        for (int i = 0; i < 2; i++) {
            Check.due("bones", x.place(i, 1), y.place(i, 1));
            Check.due("SCORE", x.hearing(i, 0), y.hearing(i, 0));
            Check.due("standing", x.hearing(i, 2), y.hearing(i, 2));
        }
        Check.due("ACTS to undo", x.about(10), 0);
        Check.due("ACTS to redo", x.about(11), 0);
        Check.due("undo()", x.undo(), false);
        Check.due("redo()", x.redo(), false);
        Check.due("it goes on from there", x.hour(), y.hour());
        Check.due("the SEED", x.about(8), y.about(8));
        Check.due("the BOX keeps it", x.back(1), 63);
        allIsKept();
    }

    private static void allIsKept() {
        Check.of("The dog, bones, SCORES, what is PASSED, FALLEN, HOURS, age, SEED, the WALK are kept in a BOX 0 .. 2");
        String four = "case a bar 2;case b bar 2;case c bar 2;case d bar 2;when a a 1;when a b -1;when a c 1;when a d -1;";
        DogDecrees x = Check.village(EIGHT + four + "day 24;");
        x.image(0);
        for (int i = 0; i < 4; i++) {
            x.hour();
        }
        for (int p = 0; p < 8; p++) {
            x.lay(p);
        }
        x.image(1);
        for (int i = 0; i < 4; i++) {
            x.hour();
        }
        for (int p = 0; p < 8; p++) {
            x.lay(p);
        }
        x.image(2);
        for (int box : new int[] {1, 0, 2, 1}) {
            Check.due("back(" + box + ")", x.back(box), 4 * box);
            for (int c = 0; c < 4; c++) {
                Check.due("SCORE of " + c, x.hearing(c, 0), c % 2 == 0 ? box : -box);
                Check.due("standing of " + c, x.hearing(c, 2), box < 2 ? 0 : 1 + c % 2);
            }
            for (int p = 0; p < 8; p++) {
                Check.due("bones at " + p, x.place(p, 1), box);
            }
        }
        wholeWalkIsKept();
    }

    private static void wholeWalkIsKept() {
        DogDecrees x = Check.village(TWO + "draw 5;pull smell+1;");
        for (int i = 0; i < 100; i++) {
            x.hour();
        }
        int[] came = new int[60];
        for (int i = 0; i < 60; i++) {
            came[i] = x.walk(i);
        }
        x.image(0);
        for (int i = 0; i < 60; i++) {
            x.hour();
        }
        boolean another = false;
        for (int i = 0; i < 60; i++) {
            another |= x.walk(i) != came[i];
        }
        Check.due("another WALK by then", another, true);
        x.back(0);
        for (int i = 0; i < 60; i++) {
            Check.due("walk(" + i + ")", x.walk(i), came[i]);
        }
    }

    private static void about() {
        Check.of("NONE for another what");
        DogDecrees x = Check.village(TWO);
        for (int what : Check.outside(0, 17)) {
            Check.due("about(" + what + ")", x.about(what), NONE);
        }
        Check.of("4: where the dog is (NONE)");
        Check.due("without PLACES", Check.village("deed a;").about(4), NONE);
        Check.due("with PLACES", x.about(4), 0);
        Check.of("10: ACTS that can be undone, 11: redone");
        x.lay(0);
        x.lay(0);
        x.hour();
        Check.due("undone", x.about(10), 3);
        Check.due("redone", x.about(11), 0);
        x.undo();
        x.undo();
        Check.due("undone then", x.about(10), 1);
        Check.due("redone then", x.about(11), 2);
        Check.of("14: bytes on the TAPE, 15: units, 16: how many lie there, 17: HOURS of a DAY");
        x = Check.village(TWO + "case c bar 1;pull (1+2)*here;day 24;");
        Check.due("bytes", x.about(14), 0);
        x.feed(0, 0, 0, 0, 0);
        Check.due("bytes then", x.about(14), 20);
        Check.due("units: a bracket and what is in it", x.about(15), 4);
        Check.due("what lies there", x.about(16), 0);
        x.best(0, 1, 0, 0);
        Check.due("what lies there then", x.about(16), 2);
        Check.due("HOURS of a DAY", x.about(17), 24);
    }
}
