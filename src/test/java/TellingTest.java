/** Promises 1 to 5: the tape, the text of a VILLAGE, its FAULTS. */
public final class TellingTest {
    private static final String PLACES = "deed a;place p smell 1 does a;place q smell 2 does a;";

    public static void main(String[] args) {
        newObject();
        tape();
        taking();
        tokens();
        whatCantStand();
        toldAlready();
        numbers();
        names();
        formulas();
        firstByPlace();
        Check.end("TellingTest");
    }

    private static void newObject() {
        DogDecrees x = new DogDecrees();
        long[] due = {0, 0, 0, 0, -1, 0, 0, 0, 0, 0, 0, 0, 0, 0, 0, 0, 0, 8};
        for (int what = 0; what < due.length; what++) {
            Check.due("new: about(" + what + ")", x.about(what), due[what]);
        }
        Check.due("new: fault(0)", x.fault(0), 0);
        Check.due("new: fault(1)", x.fault(1), -1);
        Check.due("new: fault(2)", x.fault(2), -1);
        Check.due("new: fault(-1)", x.fault(-1), -1);
        Check.due("new: place(0, 0)", x.place(0, 0), -1);
        Check.due("new: hearing(0, 0)", x.hearing(0, 0), -1000000);
        Check.due("new: table(0, 0)", x.table(0, 0), -1000000);
        Check.due("new: village()", x.village(), 0);
        Check.due("new: fault(0) then", x.fault(0), 0);
    }

    private static void tape() {
        DogDecrees x = new DogDecrees();
        Check.due("end(0)", x.end(0), 0);
        Check.due("end(1) of an empty tape", x.end(1), -1);
        Check.due("end(-1)", x.end(-1), -1);
        Check.due("feed", x.feed(-1, 0, 1, Integer.MIN_VALUE, Integer.MAX_VALUE), 20);
        Check.due("end(21)", x.end(21), -1);
        Check.due("about(14)", x.about(14), 20);
        Check.due("end(20)", x.end(20), 20);
        Check.due("end(7)", x.end(7), 7);
        Check.due("about(14) then", x.about(14), 7);
        Check.due("feed behind 7", x.feed(0, 0, 0, 0, 0), 27);
        Check.due("end(0) again", x.end(0), 0);
        for (int i = 1; i <= 80; i++) {
            Check.due("feed " + i, x.feed(0x20202020, 0x20202020, 0x20202020, 0x20202020, 0x20202020), 20 * i);
        }
        Check.due("feed beyond 1,600", x.feed(0, 0, 0, 0, 0), -1);
        Check.due("about(14) of 1,600", x.about(14), 1600);
        Check.due("end(1581)", x.end(1581), 1581);
        Check.due("feed at 1,581", x.feed(0, 0, 0, 0, 0), -1);
        Check.due("end(1580)", x.end(1580), 1580);
        Check.due("feed at 1,580", x.feed(0x20202020, 0, 0, 0, 0), 1600);
        Check.due("end(1584)", x.end(1584), 1584);
        Check.due("village of blanks", x.village(), 0);
        Check.due("about(14) behind village()", x.about(14), 0);
        byteOrder();
    }

    private static void byteOrder() {
        DogDecrees x = new DogDecrees();
        // "deed a;place p smell" in five numbers, the highest byte first
        x.feed(0x64656564, 0x20613b70, 0x6c616365, 0x20702073, 0x6d656c6c);
        x.feed(0x3720646f, 0x65732061, 0x3b202020, 0x20202020, 0x20202020);
        Check.due("village fed by bytes", x.village(), 1);
        Check.due("its smell", x.place(0, 0), 7);
    }

    private static void taking() {
        DogDecrees x = Check.village(PLACES + "path p to q;case c bar 3;when a c -2;"
                + "pull (smell+1)*2 or not here;day 5;hears 2;start q;age 9;draw 77;");
        Check.due("about(0)", x.about(0), 2);
        Check.due("about(1)", x.about(1), 1);
        Check.due("about(2)", x.about(2), 1);
        Check.due("about(3)", x.about(3), 1);
        Check.due("about(4)", x.about(4), 1);
        Check.due("about(7)", x.about(7), 9);
        Check.due("about(8)", x.about(8), 77);
        Check.due("about(15): brackets are a unit, too", x.about(15), 5);
        Check.due("about(17)", x.about(17), 5);
        x.hour();
        x.lay(0);
        x.image(1);
        x.count(0, 0, 1, 0, 0, 0);
        x.later(5);
        x.best(0, 1, 1, 0);
        Check.due("a fault: all stays", Check.tell(x, "deed a;deed"), -1);
        Check.due("its fault", x.fault(0), 2);
        Check.due("its place", x.fault(1), 11);
        Check.due("the tape is empty then", x.about(14), 0);
        Check.due("places stay", x.about(0), 2);
        Check.due("hours stay", x.about(6), 1);
        Check.due("acts stay", x.about(10), 2);
        Check.due("counts stay", x.about(12), 1);
        Check.due("what lies there stays", x.about(16), 2);
        Check.due("table stays", x.table(0, 0), -2);
        Check.due("pull stays", x.about(15), 5);
        Check.due("boxes stay", x.back(1), 1);
        x.lay(0);
        takenAnew(x);
    }

    private static void takenAnew(DogDecrees x) {
        Check.due("taken anew", Check.tell(x, PLACES + "case c bar 3;"), 2);
        Check.due("fault(0)", x.fault(0), 0);
        Check.due("fault(1)", x.fault(1), -1);
        long[] due = {2, 1, 1, 0, 0, 0, 0, 0, 0, 0, 0, 0, 0, 5, 0, 0, 0, 8};
        for (int what = 0; what < due.length; what++) {
            Check.due("anew: about(" + what + ")", x.about(what), due[what]);
        }
        Check.due("anew: walk(0)", x.walk(0), -1);
        Check.due("anew: back(1)", x.back(1), -1);
        Check.due("anew: undo()", x.undo(), false);
        Check.due("anew: redo()", x.redo(), false);
        Check.due("anew: lies(0)", x.lies(0), -1000000);
        Check.due("anew: untell(0)", x.untell(0), false);
        Check.due("anew: table(0, 0)", x.table(0, 0), 0);
        Check.due("anew: place(0, 3)", x.place(0, 3), 0);
        Check.due("anew: place(1, 4): 1 if pull is not told", x.place(1, 4), 1);
        Check.due("the empty one again", x.village(), 0);
        Check.due("no places then", x.about(0), 0);
    }

    private static void tokens() {
        Check.fault("", 0, -1);
        Check.fault(" \n \n", 0, -1);
        Check.fault("deed\nabcdefgh;", 0, -1);
        Check.fault("deed az;deed zz;deed z;", 0, -1);
        Check.fault("deed abcdefghi;", 1, 5);
        Check.fault("deeda;", 2, 0);
        Check.fault("deed\ta;", 1, 4);
        Check.fault("deed\ra;", 1, 4);
        Check.fault("Deed a;", 1, 0);
        Check.fault("deed a,", 1, 6);
        Check.fault("deed a;" + (char) 0, 1, 7);
        Check.fault("deed a;" + (char) 200, 1, 7);
        Check.fault("deed " + (char) 225 + ";", 1, 5);
        Check.fault("day 0008;", 0, -1);
        Check.fault("day 00008;", 1, 4);
        Check.fault("day8;", 0, -1);
        Check.fault("day 8x;", 1, 4);
        Check.fault("day 8 x;", 2, 6);
        Check.fault("deed a;place p smell 3does a;", 1, 21);
        Check.fault("deed a;place p smell3 does a;", 0, -1);
        Check.fault("pull(1+2)*here;", 0, -1);
        Check.fault("pull 1and 2;", 1, 5);
        Check.fault("pull (1)and(2)or not(here);", 0, -1);
        Check.fault("pull 1_2;", 1, 6);
        Check.fault("pull 12345;", 1, 5);
        Check.fault("pull 9999;", 0, -1);
    }

    private static void whatCantStand() {
        Check.fault(";", 2, 0);
        Check.fault("village;", 2, 0);
        Check.fault("deed", 2, 4);
        Check.fault("deed  ", 2, 6);
        Check.fault("deed a", 2, 6);
        Check.fault("deed a b;", 2, 7);
        Check.fault("deed 1;", 2, 5);
        Check.fault("deed a;;", 2, 7);
        Check.fault("smell 1;", 2, 0);
        String words = "deed place smell does path to case bar when pull day hears start age draw or and not bones hour here";
        for (String word : words.split(" ")) {
            Check.fault("deed " + word + ";", 2, 5);
            Check.fault("case " + word + " bar 1;", 2, 5);
            Check.fault("start " + word + ";", 2, 6);
        }
        Check.fault("deed e;deed both;deed one;deed sum;case v bar 1;", 0, -1);
        Check.fault("deed a;deed b;deed c;deed d;deed e;", 2, 28);
        Check.fault("deed a;deed b;deed c;deed d;deed a;", 2, 28);
        String deed = "deed a;";
        StringBuilder places = new StringBuilder(deed);
        for (int i = 0; i < 8; i++) {
            places.append("place ").append((char) ('a' + i)).append(" smell 0 does a;");
        }
        Check.fault(places.toString(), 0, -1);
        Check.fault(places + "place i smell 0 does a;", 2, places.length());
        StringBuilder paths = new StringBuilder(places);
        int told = 0;
        for (int i = 0; i < 8 && told < 16; i++) {
            for (int j = i + 1; j < 8 && told < 16; j++, told++) {
                paths.append("path ").append((char) ('a' + j)).append(" to ").append((char) ('a' + i)).append(';');
            }
        }
        Check.fault(paths.toString(), 0, -1);
        Check.fault(paths + "path g to h;", 2, paths.length());
        String cases = "case a bar 1;case b bar 15;case c bar 7;case d bar 01;";
        Check.fault(cases, 0, -1);
        Check.fault(cases + "case e bar 1;", 2, cases.length());
        tableAndOnce(cases);
    }

    private static void tableAndOnce(String cases) {
        StringBuilder table = new StringBuilder("deed a;deed b;deed c;deed d;").append(cases);
        for (int i = 0; i < 16; i++) {
            table.append("when ").append((char) ('a' + i / 4)).append(' ').append((char) ('a' + i % 4)).append(" -0;");
        }
        Check.fault(table.toString(), 0, -1);
        Check.fault(table + "when a a 1;", 2, table.length());
        String once = PLACES + "pull 1;day 1;hears 1;start p;age 0;draw 0;";
        Check.fault(once, 0, -1);
        String[] words = {"pull", "day", "hears", "start", "age", "draw"};
        for (String word : words) {
            Check.fault(once + word + " 1;", 2, once.length());
            Check.fault(PLACES + word + ";", 2, PLACES.length() + word.length());
        }
        Check.fault(PLACES + "path p q;", 2, PLACES.length() + 7);
        Check.fault(PLACES + "path p to;", 2, PLACES.length() + 9);
        Check.fault("case c bar -1;", 2, 11);
        Check.fault("case c 1;", 2, 7);
        Check.fault("deed a;case c bar 1;when a c --1;", 2, 30);
        Check.fault("deed a;case c bar 1;when a c +1;", 2, 29);
        Check.fault("deed a;case c bar 1;when a c - 3 ;", 0, -1);
        Check.fault("deed a;case c bar 1;when a c;", 2, 28);
    }

    private static void toldAlready() {
        Check.fault("deed a;deed b;deed a;", 3, 19);
        Check.fault("deed a;case a bar 1;place a smell 1 does a;", 0, -1);
        Check.fault(PLACES + "place q smell 99 does z;", 3, PLACES.length() + 6);
        Check.fault("case c bar 1;case c bar 99;", 3, 18);
        Check.fault(PLACES + "path q to q;", 3, PLACES.length() + 10);
        Check.fault(PLACES + "path p to q;path p to q;", 3, PLACES.length() + 22);
        Check.fault(PLACES + "path p to q;path q to p;", 3, PLACES.length() + 22);
        Check.fault("deed a;case c bar 1;when a c 1;when a c 9;", 3, 38);
    }

    private static void numbers() {
        Check.fault("deed a;place p smell 9 does a;", 0, -1);
        Check.fault("deed a;place p smell 10 does a;", 4, 21);
        Check.fault("case c bar 0;", 4, 11);
        Check.fault("case c bar 16;", 4, 11);
        Check.fault("deed a;case c bar 1;when a c 3;", 0, -1);
        Check.fault("deed a;case c bar 1;when a c -3;", 0, -1);
        Check.fault("deed a;case c bar 1;when a c 4;", 4, 29);
        Check.fault("deed a;case c bar 1;when a c -4;", 4, 29);
        Check.fault("deed a;case c bar 1;when a c -\n 4;", 4, 29);
        Check.fault("deed a;case c bar 1;when a c -4x;", 1, 30);
        Check.fault("day 24;hears 24;age 99;draw 999;", 0, -1);
        Check.fault("day 1;hears 1;age 0;draw 0;", 0, -1);
        Check.fault("day 0;", 4, 4);
        Check.fault("day 25;", 4, 4);
        Check.fault("hears 0;", 4, 6);
        Check.fault("hears 25;", 4, 6);
        Check.fault("age 100;", 4, 4);
        Check.fault("draw 1000;", 4, 5);
    }

    private static void names() {
        Check.fault("deed a;place p smell 1 does p;", 5, 28);
        Check.fault("start p;" + PLACES, 5, 6);
        Check.fault(PLACES + "start a;", 5, PLACES.length() + 6);
        Check.fault(PLACES + "path a to p;", 5, PLACES.length() + 5);
        Check.fault(PLACES + "path p to a;", 5, PLACES.length() + 10);
        Check.fault("deed a;case c bar 1;when c a 1;", 5, 25);
        Check.fault("deed a;case c bar 1;when a a 1;", 5, 27);
        Check.fault("deed ab;place p smell 1 does a;", 5, 29);
        Check.fault("deed a;place p smell 1 does aa;", 5, 28);
    }

    private static void formulas() {
        Check.fault("pull;", 2, 4);
        Check.fault("pull ();", 2, 6);
        Check.fault("pull (1;", 2, 7);
        Check.fault("pull 1);", 2, 6);
        Check.fault("pull -1;", 2, 5);
        Check.fault("pull 1+not 2;", 2, 7);
        Check.fault("pull 1*not 2;", 2, 7);
        Check.fault("pull 1<not 2;", 2, 7);
        Check.fault("pull 1 and not 2 or not not 3<4;", 0, -1);
        Check.fault("pull 1<2=3;", 2, 8);
        Check.fault("pull (1<2)=(3>4);", 0, -1);
        Check.fault("pull not 1<2<3;", 2, 12);
        Check.fault("pull 1 2;", 2, 7);
        Check.fault("pull 1 or;", 2, 9);
        Check.fault("pull 1 and;", 2, 10);
        Check.fault("pull 1+;", 2, 7);
        Check.fault("pull 1%;", 2, 7);
        Check.fault("pull 1>;", 2, 7);
        Check.fault("pull not;", 2, 8);
        Check.fault("pull (1 and);", 2, 11);
        Check.fault("pull or 1;", 2, 5);
        Check.fault("pull dog;", 2, 5);
        Check.fault("pull draw;", 2, 5);
        Check.fault("pull smell+bones+hour+age+here;", 0, -1);
        Check.fault("pull " + Check.times("(", 7) + "1" + Check.times(")", 7) + ";", 0, -1);
        Check.fault("pull " + Check.times("(", 8) + "1" + Check.times(")", 8) + ";", 2, 12);
        Check.fault("pull " + Check.times("not ", 7) + "1;", 0, -1);
        Check.fault("pull " + Check.times("not ", 8) + "1;", 2, 33);
        Check.fault("pull " + Check.times("not(", 3) + "not 1" + Check.times(")", 3) + ";", 0, -1);
        Check.fault("pull " + Check.times("not(", 4) + "1" + Check.times(")", 4) + ";", 2, 20);
        Check.fault("pull " + Check.times("not(", 3) + "not not 1" + Check.times(")", 3) + ";", 2, 21);
        Check.fault("pull " + Check.times("not(", 3) + "not 1 and not 2 and not(3)" + Check.times(")", 3) + ";", 2, 40);
        Check.fault("pull 1" + Check.times("+1", 29) + ";", 0, -1);
        Check.fault("pull 1" + Check.times("+1", 30) + ";", 2, 65);
        Check.fault("pull (1)" + Check.times("+(1)", 14) + ";", 0, -1);
        Check.fault("pull (1)" + Check.times("+(1)", 15) + ";", 2, 65);
        Check.fault("pull 1" + Check.times("+1", 28) + "+(1);", 2, 64);
        Check.due("units of 30", Check.village("pull (1)" + Check.times("+(1)", 14) + ";").about(15), 30);
    }

    private static void firstByPlace() {
        Check.fault("deed deed;deed $", 2, 5);
        Check.fault("day 99;day $", 4, 4);
        Check.fault("deed a;case c bar 1;when a c 9 $", 4, 29);
        Check.fault("deed a;case c bar 1;when a c - $", 1, 31);
        Check.fault("deed $;", 1, 5);
        Check.fault("deed a;deed a;$", 3, 12);
    }
}
