/** Promises 6 to 14, 24 and 33 to 35: what is told, HOURS, bones, UNDO, the WALK, images, about. */
public final class ActsTest {
    private static final int NONE = -1;
    private static final int GAP = -1000000;
    private static final String TWO = "deed a;deed b;place p smell 1 does a;place q smell 3 does b;path p to q;";

    public static void main(String[] args) {
        places();
        cases();
        pulls();
        draws();
        hours();
        scores();
        days();
        bones();
        undoing();
        fortyActs();
        walking();
        images();
        about();
        Check.end("ActsTest");
    }

    private static void places() {
        DogDecrees x = Check.village("deed a;deed b;place p smell 0 does b;place q smell 9 does a;"
                + "place r smell 5 does b;path r to p;path q to r;start r;pull smell+here*10;");
        long[][] due = {{0, 0, 1, 4, 0}, {9, 0, 0, 4, 9}, {5, 0, 1, 3, 15}};
        for (int p = 0; p < 3; p++) {
            for (int what = 0; what < 5; what++) {
                Check.due("place(" + p + ", " + what + ")", x.place(p, what), due[p][what]);
            }
            Check.due("place(" + p + ", 5)", x.place(p, 5), NONE);
            Check.due("place(" + p + ", -1)", x.place(p, -1), NONE);
        }
        int[] wrong = {-1, 3, 8, 9, Integer.MIN_VALUE, Integer.MAX_VALUE};
        for (int p : wrong) {
            Check.due("place(" + p + ", 0)", x.place(p, 0), NONE);
            Check.due("place(" + p + ", 4)", x.place(p, 4), NONE);
            Check.due("draws(" + p + ")", x.draws(p), NONE);
            Check.due("lay(" + p + ")", x.lay(p), NONE);
            Check.due("take(" + p + ")", x.take(p), NONE);
        }
        Check.due("nothing was done", x.about(10), 0);
        x.lay(1);
        Check.due("place(1, 1)", x.place(1, 1), 1);
    }

    private static void cases() {
        DogDecrees x = Check.village(TWO + "case c bar 15;case d bar 2;when b d -3;when a c 2;hears 2;");
        Check.due("hearing(0, 1)", x.hearing(0, 1), 15);
        Check.due("hearing(1, 1)", x.hearing(1, 1), 2);
        Check.due("hearing(1, 0)", x.hearing(1, 0), 0);
        Check.due("hearing(1, 2)", x.hearing(1, 2), 0);
        Check.due("hearing(0, 3)", x.hearing(0, 3), 1);
        Check.due("hearing(0, 4)", x.hearing(0, 4), GAP);
        Check.due("hearing(0, -1)", x.hearing(0, -1), GAP);
        Check.due("hearing(2, 0)", x.hearing(2, 0), GAP);
        Check.due("hearing(-1, 0)", x.hearing(-1, 0), GAP);
        Check.due("table(0, 0)", x.table(0, 0), 2);
        Check.due("table(1, 0): 0 if not told", x.table(1, 0), 0);
        Check.due("table(0, 1): 0 if not told", x.table(0, 1), 0);
        Check.due("table(1, 1)", x.table(1, 1), -3);
        Check.due("table(2, 0)", x.table(2, 0), GAP);
        Check.due("table(0, 2)", x.table(0, 2), GAP);
        Check.due("table(-1, 0)", x.table(-1, 0), GAP);
        Check.due("table(0, -1)", x.table(0, -1), GAP);
        int[] heard = {0, 0, 1, 1, 0, 0, 1};
        for (int hour = 0; hour < heard.length; hour++) {
            Check.due("HEARD in hour " + hour, x.hearing(heard[hour], 3), 1);
            Check.due("not HEARD in hour " + hour, x.hearing(1 - heard[hour], 3), 0);
            x.hour();
        }
    }

    /** The PULL by a formula of a PLACE with smell 3, 2 bones, in HOUR 1 at age 7, the dog there. */
    private static void pull(String formula, int due) {
        DogDecrees x = Check.village("deed a;place p smell 3 does a;age 7;pull " + formula + ";");
        x.hour();
        x.lay(0);
        x.lay(0);
        Check.due("PULL by " + formula, x.place(0, 4), due);
    }

    private static void pulls() {
        pull("smell*10+bones", 32);
        pull("hour*10+here", 11);
        pull("age", 7);
        pull("98+1", 99);
        pull("98+2", 99);
        pull("0-1", 0);
        pull("1+2*3", 7);
        pull("(1+2)*3", 9);
        pull("20-5-3", 12);
        pull("20-(5-3)", 18);
        pull("17/5", 3);
        pull("(0-17)/5+10", 7);
        pull("17%5", 2);
        pull("(0-17)%5+10", 8);
        pull("17/0+5", 5);
        pull("17%0+6", 6);
        pull("60/3/2*5%7", 1);
        // 9999 thrice is 999700029999, as an int -1027349969
        pull("9999*9999*9999%100+99", 30);
        pull("(9999*9999*9999<0)+5", 6);
        pull("(0-2147*1000*1000-483*1000-648)/(0-1)<0", 1);
        pull("(0-2147*1000*1000-483*1000-648)%(0-1)=0", 1);
        pull("0-2147*1000*1000-483*1000-648-1=2147*1000*1000+483*1000+647", 1);
        pull("smell<4", 1);
        pull("smell>3", 0);
        pull("smell=3", 1);
        pull("1+1=2", 1);
        pull("not 5", 0);
        pull("not 0", 1);
        pull("not smell=4", 1);
        pull("not not 7", 1);
        pull("5 and 6", 1);
        pull("5 and 0", 0);
        pull("0 or 8", 1);
        pull("0 or 0", 0);
        pull("1 or 1 and 0", 1);
        pull("(1 or 1) and 0", 0);
        pull("not 0 and 0", 0);
        pull("not(0 and 0)", 1);
        pull("(smell>2)*40+(bones=2)*2", 42);
        pull("0-1 or 0", 1);
        Check.due("1, if pull is not told", Check.village(TWO).place(1, 4), 1);
    }

    private static void draws() {
        DogDecrees x = Check.village(TWO + "place r smell 0 does a;pull smell;");
        Check.due("draws(0) by 1 of 4", x.draws(0), 15);
        Check.due("draws(1) by 3 of 4", x.draws(1), 45);
        Check.due("draws(2): no PATH leads there", x.draws(2), 0);
        x = Check.village(TWO + "pull 0;start q;");
        Check.due("draws(0) if all PULLS are 0", x.draws(0), 0);
        Check.due("draws(1) if all PULLS are 0", x.draws(1), 60);
        x = Check.village("deed a;place p smell 1 does a;place q smell 2 does a;place r smell 4 does a;"
                + "path p to q;path q to r;path r to p;pull smell;");
        // of 7: DRAWS d with 7d/60 cut below 1, 3, 7: up to 8, 25, 59
        Check.due("draws(0) by 1 of 7", x.draws(0), 9);
        Check.due("draws(1) by 2 of 7", x.draws(1), 17);
        Check.due("draws(2) by 4 of 7", x.draws(2), 34);
    }

    private static void hours() {
        DogDecrees x = Check.village(TWO + "draw 5;pull smell;");
        // 756: 36 of 60, the 2nd of 4; 643: 43, the 2nd; 162: 42, the 2nd; 265: 25; 376: 16; 583: 43; 942: 42
        int[] seeds = {756, 643, 162, 265, 376, 583, 942, 125, 196, 923};
        for (int seed : seeds) {
            int due = seed % 60 * 4 / 60 < 1 ? 0 : 1;
            Check.due("hour() by " + seed, x.hour(), due);
            Check.due("the SEED", x.about(8), seed);
            Check.due("the dog", x.about(4), due);
        }
        Check.due("HOURS that were", x.about(6), 10);
        Check.due("the HOUR", x.about(5), 2);
        Check.due("hour() without PLACES", Check.village("deed a;").hour(), NONE);
        x = Check.village("deed a;place p smell 1 does a;");
        for (int i = 0; i < 2000; i++) {
            x.hour();
        }
        Check.due("hours till 2,000", x.about(6), 2000);
        Check.due("the age, 99 at most", x.about(7), 99);
        Check.due("an hour behind 2,000", x.hour(), NONE);
        Check.due("hours then", x.about(6), 2000);
    }

    private static void scores() {
        DogDecrees x = Check.village("deed a;place p smell 1 does a;case c bar 4;case d bar 2;when a c 3;when a d -1;");
        int[][] due = {{3, 0, 0, 0}, {3, 0, -1, 0}, {6, 1, -1, 0}, {6, 1, -2, 2}, {6, 1, -2, 2}, {6, 1, -2, 2}};
        for (int i = 0; i < due.length; i++) {
            x.hour();
            Check.due("SCORE of c behind " + (i + 1), x.hearing(0, 0), due[i][0]);
            Check.due("c stands", x.hearing(0, 2), due[i][1]);
            Check.due("SCORE of d behind " + (i + 1), x.hearing(1, 0), due[i][2]);
            Check.due("d stands", x.hearing(1, 2), due[i][3]);
        }
        Check.due("a case that is PASSED is HEARD still", x.hearing(0, 3), 1);
    }

    private static void days() {
        DogDecrees x = Check.village(TWO + "day 2;age 98;pull bones;");
        x.lay(0);
        x.lay(1);
        x.hour();
        Check.due("bones within the DAY", x.about(9), 2);
        Check.due("HOUR 1", x.about(5), 1);
        Check.due("age within the DAY", x.about(7), 98);
        x.hour();
        Check.due("bones are gone behind it", x.about(9), 0);
        Check.due("HOUR 0", x.about(5), 0);
        Check.due("age behind it", x.about(7), 99);
        x.lay(1);
        x.hour();
        x.hour();
        Check.due("age is 99 at most", x.about(7), 99);
        Check.due("undo of the DAY's end", x.undo(), true);
        Check.due("bones lie again", x.place(1, 1), 1);
        x = Check.village(TWO + "day 1;");
        for (int i = 1; i <= 3; i++) {
            x.hour();
            Check.due("HOUR of a DAY of one", x.about(5), 0);
            Check.due("age by DAYS of one", x.about(7), i);
        }
    }

    private static void bones() {
        DogDecrees x = Check.village(TWO);
        for (int i = 1; i <= 9; i++) {
            Check.due("lay(1)", x.lay(1), i);
        }
        Check.due("a tenth bone", x.lay(1), NONE);
        Check.due("it is no ACT", x.about(10), 9);
        Check.due("take of none", x.take(0), NONE);
        Check.due("it is no ACT either", x.about(10), 9);
        Check.due("lay(0)", x.lay(0), 1);
        Check.due("bones in all", x.about(9), 10);
        Check.due("take(1)", x.take(1), 8);
        Check.due("take(0)", x.take(0), 0);
        Check.due("bones in all then", x.about(9), 8);
        Check.due("place(1, 1)", x.place(1, 1), 8);
    }

    private static void undoing() {
        DogDecrees x = Check.village(TWO + "case c bar 1;when a c 1;when b c 1;draw 5;day 1;");
        Check.due("undo of nothing", x.undo(), false);
        Check.due("redo of nothing", x.redo(), false);
        x.lay(0);
        x.hour();
        x.lay(1);
        Check.due("undo lay", x.undo(), true);
        Check.due("no bone", x.place(1, 1), 0);
        Check.due("c is PASSED", x.hearing(0, 2), 1);
        Check.due("undo hour", x.undo(), true);
        Check.due("c is OPEN", x.hearing(0, 2), 0);
        Check.due("its SCORE", x.hearing(0, 0), 0);
        Check.due("the dog is back", x.about(4), 0);
        Check.due("the SEED", x.about(8), 5);
        Check.due("the age", x.about(7), 0);
        Check.due("the bone", x.place(0, 1), 1);
        Check.due("the WALK", x.walk(0), NONE);
        Check.due("to be undone", x.about(10), 1);
        Check.due("to be redone", x.about(11), 2);
        Check.due("what can't be done", x.take(1), NONE);
        Check.due("leaves what was taken back", x.about(11), 2);
        Check.due("redo hour", x.redo(), true);
        Check.due("c is PASSED again", x.hearing(0, 2), 1);
        Check.due("the WALK again", x.walk(0), 1);
        Check.due("the SEED again", x.about(8), 756);
        Check.due("redo lay", x.redo(), true);
        Check.due("the bone again", x.place(1, 1), 1);
        Check.due("redo of no more", x.redo(), false);
        x.undo();
        x.lay(0);
        Check.due("another ACT: nothing to redo", x.redo(), false);
        Check.due("about(11)", x.about(11), 0);
        Check.due("about(10)", x.about(10), 3);
    }

    private static void fortyActs() {
        DogDecrees x = Check.village(TWO + "day 24;");
        for (int i = 0; i < 45; i++) {
            Check.due("ACT " + i, i % 2 == 0 ? x.lay(0) : x.take(0), i % 2 == 0 ? 1 : 0);
            Check.due("kept", x.about(10), Math.min(40, i + 1));
        }
        for (int i = 0; i < 40; i++) {
            Check.due("undo " + i, x.undo(), true);
            Check.due("bones then", x.place(0, 1), i % 2 == 0 ? 0 : 1);
        }
        Check.due("the oldest are gone", x.undo(), false);
        Check.due("about(11)", x.about(11), 40);
        for (int i = 0; i < 40; i++) {
            Check.due("redo " + i, x.redo(), true);
            Check.due("bones again", x.place(0, 1), i % 2 == 0 ? 0 : 1);
        }
        Check.due("no more", x.redo(), false);
        Check.due("about(10)", x.about(10), 40);
    }

    private static void walking() {
        DogDecrees x = Check.village(TWO + "draw 5;pull smell;");
        int[] came = new int[75];
        for (int i = 0; i < came.length; i++) {
            came[i] = x.hour();
            Check.due("walk(0)", x.walk(0), came[i]);
        }
        lookBack(x, came, 75);
        Check.due("walk(60)", x.walk(60), NONE);
        Check.due("walk(-1)", x.walk(-1), NONE);
        for (int i = 1; i <= 20; i++) {
            x.undo();
        }
        lookBack(x, came, 55);
        Check.due("walk(55)", x.walk(55), NONE);
        for (int i = 1; i <= 13; i++) {
            x.redo();
        }
        lookBack(x, came, 68);
        Check.due("walk(60) of 68", x.walk(60), NONE);
    }

    private static void lookBack(DogDecrees x, int[] came, int hours) {
        for (int i = 0; i < 60 && i < hours; i++) {
            Check.due("walk(" + i + ") of " + hours, x.walk(i), came[hours - 1 - i]);
        }
    }

    private static void images() {
        DogDecrees x = Check.village(TWO + "draw 5;pull smell;case c bar 1;when b c 1;day 3;");
        Check.due("back of an empty BOX", x.back(0), NONE);
        Check.due("image(3)", x.image(3), NONE);
        Check.due("image(-1)", x.image(-1), NONE);
        Check.due("image(2)", x.image(2), 0);
        for (int i = 0; i < 65; i++) {
            x.hour();
        }
        x.lay(1);
        int[] came = new int[60];
        for (int i = 0; i < 60; i++) {
            came[i] = x.walk(i);
        }
        long[] due = new long[18];
        for (int what = 0; what < 18; what++) {
            due[what] = x.about(what);
        }
        due[10] = 0;
        Check.due("image(0)", x.image(0), 65);
        Check.due("an image is no ACT", x.about(10), 40);
        x.undo();
        x.undo();
        x.lay(0);
        x.hour();
        Check.due("back(0)", x.back(0), 65);
        for (int what = 0; what < 18; what++) {
            Check.due("as it was: about(" + what + ")", x.about(what), due[what]);
        }
        for (int i = 0; i < 60; i++) {
            Check.due("as it was: walk(" + i + ")", x.walk(i), came[i]);
        }
        Check.due("as it was: the bone", x.place(1, 1), 1);
        Check.due("as it was: c", x.hearing(0, 2), 1);
        Check.due("no ACTS are kept: undo", x.undo(), false);
        Check.due("no ACTS are kept: redo", x.redo(), false);
        x.hour();
        Check.due("back(0) a second time", x.back(0), 65);
        Check.due("back(2)", x.back(2), 0);
        Check.due("as at first: the dog", x.about(4), 0);
        Check.due("as at first: c", x.hearing(0, 2), 0);
        Check.due("as at first: the SEED", x.about(8), 5);
        Check.due("as at first: the WALK", x.walk(0), NONE);
        Check.due("back(1)", x.back(1), NONE);
        Check.due("back(3)", x.back(3), NONE);
        Check.due("back(-1)", x.back(-1), NONE);
        DogDecrees empty = new DogDecrees();
        Check.due("image of an empty VILLAGE", empty.image(1), 0);
        Check.due("back to it", empty.back(1), 0);
    }

    private static void about() {
        DogDecrees x = Check.village(TWO + "case c bar 1;case d bar 2;case e bar 3;day 4;age 9;draw 8;pull 1+smell;");
        x.feed(0, 0, 0, 0, 0);
        x.hour();
        x.lay(0);
        x.lay(1);
        x.undo();
        x.count(0, 0, 1, 1, 1, 0);
        x.later(17);
        x.best(0, 1, 0, 0);
        long[] due = {2, 2, 3, 1, x.walk(0), 1, 1, 9, 167, 1, 2, 1, 1, 17, 20, 2, 2, 4, NONE, NONE};
        for (int what = 0; what < due.length; what++) {
            Check.due("about(" + what + ")", x.about(what), due[what]);
        }
        Check.due("about(-1)", x.about(-1), NONE);
        Check.due("about(MIN)", x.about(Integer.MIN_VALUE), NONE);
    }
}
