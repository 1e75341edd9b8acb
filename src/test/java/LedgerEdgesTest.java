/** Each sentence of "Terms", part 4, and of promises 27 to 32 that names an edge. */
public final class LedgerEdgesTest {
    private static final int NONE = -1;
    private static final int GAP = -1000000;
    private static final int MIN = Integer.MIN_VALUE;
    private static final int MAX = Integer.MAX_VALUE;
    private static final String FOUR = "deed a;deed b;deed c;deed d;case w bar 1;case x bar 1;case y bar 1;case z bar 1;";
    private static final String SMALL = "deed a;deed b;case w bar 1;case x bar 1;";

    public static void main(String[] args) {
        counting();
        countRefused();
        thirty();
        untelling();
        later();
        untoldAtTheSame();
        knownAt();
        tables();
        meantOfNone();
        meantEdges();
        sureEdges();
        askEdges();
        likeOnes();
        Check.end("LedgerEdgesTest");
    }

    private static void counting() {
        Check.of("for a CASE a DEED so many times (0 .. 9), and another one (or the same) so many times counted V together "
                + "(-99 .. 99)");
        DogDecrees x = Check.village(FOUR);
        int[][] fine = {{0, 0, 0, 0, 0, 0}, {3, 3, 9, 3, 9, 99}, {3, 0, 9, 3, 9, -99}, {0, 3, 0, 0, 9, 0}, {2, 1, 9, 2, 0, 27}};
        for (int i = 0; i < fine.length; i++) {
            int[] f = fine[i];
            Check.due("a COUNT", x.count(f[0], f[1], f[2], f[3], f[4], f[5]), i);
        }
        Check.due("meant of y: b is 3", x.meant(2, 0), 343);
        Check.due("sure of it", x.sure(2, 1, 0), 3);
        // the same one twice: 9a + 9a is -54 for -3 alone
        x.count(1, 0, 9, 0, 9, -54);
        Check.due("the same one", x.sure(1, 0, 0), -3);
        Check.due("the same one, tables", x.meant(1, 0), 343);
    }

    private static void countRefused() {
        Check.of("NONE, doing nothing, if one can't be, or there are 30");
        DogDecrees x = Check.village(FOUR);
        for (int n : Check.outside(0, 3)) {
            Check.due("a CASE " + n, x.count(n, 0, 1, 0, 1, 0), NONE);
            Check.due("a DEED " + n, x.count(0, n, 1, 0, 1, 0), NONE);
            Check.due("another DEED " + n, x.count(0, 0, 1, n, 1, 0), NONE);
            Check.due("another DEED " + n + ", 0 times", x.count(0, 0, 1, n, 0, 0), NONE);
        }
        for (int n : Check.outside(0, 9)) {
            Check.due("times " + n, x.count(0, 0, n, 0, 1, 0), NONE);
            Check.due("other times " + n, x.count(0, 0, 1, 0, n, 0), NONE);
        }
        for (int n : Check.outside(-99, 99)) {
            Check.due("together " + n, x.count(0, 0, 1, 0, 1, n), NONE);
        }
        Check.due("COUNTS", x.about(12), 0);
        Check.due("tables", x.meant(0, 0), 2401);
        x = Check.village(SMALL);
        Check.due("a CASE 2 of two", x.count(2, 0, 1, 0, 1, 0), NONE);
        Check.due("a DEED 2 of two", x.count(0, 2, 1, 0, 1, 0), NONE);
        Check.due("another DEED 2 of two", x.count(0, 0, 1, 2, 1, 0), NONE);
        Check.due("without DEEDS", Check.village("case w bar 1;").count(0, 0, 0, 0, 0, 0), NONE);
        Check.due("without CASES", Check.village("deed a;").count(0, 0, 0, 0, 0, 0), NONE);
    }

    private static void thirty() {
        Check.of("COUNTS, 30 at most");
        DogDecrees x = Check.village(SMALL);
        for (int i = 0; i < 29; i++) {
            Check.due("COUNT " + i, x.count(1, 0, 0, 0, 0, 0), i);
        }
        Check.due("the 30th", x.count(0, 0, 1, 1, 0, 2), 29);
        Check.due("it counts", x.sure(0, 0, 0), 2);
        Check.due("a 31st", x.count(0, 1, 1, 1, 0, 1), NONE);
        Check.due("it does not count", x.sure(0, 1, 0), GAP);
        Check.due("COUNTS", x.about(12), 30);
        Check.due("untell(29)", x.untell(29), true);
        Check.due("there are 30 still", x.count(0, 1, 1, 1, 0, 1), NONE);
        Check.due("sure then", x.sure(0, 0, 0), GAP);
        Check.tell(x, SMALL);
        Check.due("the first one again", x.count(0, 0, 1, 1, 0, 2), 0);
        Check.due("tables by it alone", x.meant(0, 0), 7);
        Check.due("it is TOLD", x.untell(0), true);
    }

    private static void untelling() {
        Check.of("It is UNTOLD: true; false if it is so already, or there is none such");
        DogDecrees x = Check.village(SMALL);
        Check.due("untell(0) of none", x.untell(0), false);
        for (int i = 0; i < 30; i++) {
            x.count(0, 0, 1, 0, 0, i % 4);
        }
        for (int i : Check.outside(0, 29)) {
            Check.due("untell(" + i + ")", x.untell(i), false);
        }
        for (int i = 0; i < 30; i++) {
            Check.due("untell(" + i + ")", x.untell(i), true);
            Check.due("untell(" + i + ") again", x.untell(i), false);
        }
        Check.due("all tables again", x.meant(0, 0), 49);
        x.later(1);
        Check.due("untell(0) later", x.untell(0), false);
        x = Check.village(SMALL);
        x.count(0, 0, 1, 0, 0, 1);
        Check.due("untell(1) of one", x.untell(1), false);
        // it was UNTOLD at 0 and stays so, even if it is untold again later
        x.untell(0);
        x.later(5);
        x.untell(0);
        Check.due("meant(0, 0)", x.meant(0, 0), 49);
    }

    private static void later() {
        Check.of("So much later (0 .. 1000): the TIME; NONE, doing nothing, for another number, or if it would be above 100,000");
        DogDecrees x = new DogDecrees();
        Check.due("later(0)", x.later(0), 0);
        Check.due("later(1)", x.later(1), 1);
        Check.due("later(1000)", x.later(1000), 1001);
        for (int by : Check.outside(0, 1000)) {
            Check.due("later(" + by + ")", x.later(by), NONE);
        }
        Check.due("the TIME", x.about(13), 1001);
        for (int i = 1; i <= 98; i++) {
            Check.due("later(1000)", x.later(1000), 1001 + 1000 * i);
        }
        Check.due("later(1000) to 100,001", x.later(1000), NONE);
        Check.due("the TIME then", x.about(13), 99001);
        Check.due("later(999) to 100,000", x.later(999), 100000);
        Check.due("later(1)", x.later(1), NONE);
        Check.due("later(0)", x.later(0), 100000);
        Check.due("the TIME at last", x.about(13), 100000);
        Check.of("0 at first, goes on");
        Check.due("the TIME", new DogDecrees().about(13), 0);
        Check.due("the TIME stays with a new VILLAGE", Check.tell(x, SMALL), 0);
        Check.due("about(13)", x.about(13), 100000);
        x.count(0, 0, 1, 0, 0, 1);
        Check.due("TOLD at 100,000", x.meant(0, 100000), 7);
        Check.due("known at 99,999", x.meant(0, 99999), 49);
        Check.due("known later", x.meant(0, MAX), 7);
    }

    private static void untoldAtTheSame() {
        Check.of("UNTOLD at a later one or the same");
        DogDecrees x = Check.village(SMALL);
        x.later(7);
        x.count(0, 0, 1, 0, 0, 1);
        Check.due("ahead of that", x.meant(0, 7), 7);
        x.untell(0);
        for (int k : new int[] {MIN, -1, 0, 6, 7, 8, MAX}) {
            Check.due("told and untold at 7, known at " + k, x.meant(0, k), 49);
        }
    }

    private static void knownAt() {
        Check.of("As known at k those count that were TOLD at k or before, not UNTOLD at k or before");
        DogDecrees x = Check.village(SMALL);
        x.count(0, 0, 1, 0, 0, 1);
        x.later(10);
        x.count(0, 1, 1, 0, 0, 2);
        x.later(10);
        x.untell(0);
        x.later(10);
        x.untell(1);
        int[][] due = {{MIN, 49}, {-1, 49}, {0, 7}, {9, 7}, {10, 1}, {19, 1}, {20, 7}, {29, 7}, {30, 49}, {31, 49}, {MAX, 49}};
        for (int[] d : due) {
            Check.due("meant(0, " + d[0] + ")", x.meant(0, d[0]), d[1]);
            Check.due("meant(1, " + d[0] + ")", x.meant(1, d[0]), 49);
        }
        Check.due("sure(0, 0, 0)", x.sure(0, 0, 0), 1);
        Check.due("sure(0, 0, -1)", x.sure(0, 0, -1), GAP);
        Check.due("sure(0, 0, 19)", x.sure(0, 0, 19), 1);
        Check.due("sure(0, 0, 20)", x.sure(0, 0, 20), GAP);
        Check.due("sure(0, 1, 9)", x.sure(0, 1, 9), GAP);
        Check.due("sure(0, 1, 10)", x.sure(0, 1, 10), 2);
        Check.due("sure(0, 1, 29)", x.sure(0, 1, 29), 2);
        Check.due("sure(0, 1, 30)", x.sure(0, 1, 30), GAP);
        Check.due("ask(0, 0, 9)", x.ask(0, 0, 9), 1);
        Check.due("ask(0, 0, 29)", x.ask(0, 0, 29), 0);
        Check.due("ask(0, 1, 9)", x.ask(0, 1, 9), 1);
        Check.due("ask(0, 1, 30)", x.ask(0, 1, 30), 7);
    }

    private static void tables() {
        Check.of("tables of it (for each DEED -3 .. 3, whatever when tells)");
        int[] all = {1, 7, 49, 343, 2401};
        String deeds = "";
        for (int d = 0; d <= 4; d++) {
            Check.due("tables of " + d + " DEEDS", Check.village(deeds + "case w bar 1;").meant(0, 0), all[d]);
            deeds += "deed " + (char) ('a' + d) + ";";
        }
        DogDecrees x = Check.village(SMALL + "when a w 2;when b w -2;");
        Check.due("whatever when tells", x.meant(0, 0), 49);
        for (int v = -4; v <= 4; v++) {
            DogDecrees y = Check.village(SMALL);
            y.count(0, 1, 1, 0, 0, v);
            Check.due("tables by b of " + v, y.meant(0, 0), Math.abs(v) <= 3 ? 7 : 0);
            Check.due("sure of b by " + v, y.sure(0, 1, 0), Math.abs(v) <= 3 ? v : GAP);
        }
        // a + b: how many tables for each sum
        for (int v = -7; v <= 7; v++) {
            DogDecrees y = Check.village(SMALL);
            y.count(1, 0, 1, 1, 1, v);
            Check.due("tables by a and b of " + v, y.meant(1, 0), Math.max(0, 7 - Math.abs(v)));
            Check.due("those of the other CASE", y.meant(0, 0), 49);
        }
    }

    private static void meantOfNone() {
        Check.of("MEANT: how many tables (1 without DEEDS); NONE if there is no such CASE");
        DogDecrees x = Check.village("case w bar 1;case x bar 1;case y bar 1;case z bar 1;");
        for (int c = 0; c < 4; c++) {
            Check.due("meant(" + c + ", 0) without DEEDS", x.meant(c, 0), 1);
        }
        for (int c : Check.outside(0, 3)) {
            Check.due("meant(" + c + ", 0)", x.meant(c, 0), NONE);
        }
        Check.due("meant(0, 0) without CASES", Check.village("deed a;").meant(0, 0), NONE);
        Check.due("meant(1, 0) of one", Check.village("deed a;case w bar 1;").meant(1, 0), NONE);
    }

    private static void meantEdges() {
        Check.of("by which all its COUNTS that count are so");
        DogDecrees x = Check.village(FOUR);
        // nothing counted is 0 in all tables, and 1 in none
        x.count(0, 0, 0, 1, 0, 0);
        Check.due("0 times for 0", x.meant(0, 0), 2401);
        x.count(0, 0, 0, 1, 0, 1);
        Check.due("0 times for 1", x.meant(0, 0), 0);
        // 9a + 9d from -54 to 54
        x.count(1, 0, 9, 3, 9, 54);
        Check.due("9 and 9 times for 54", x.meant(1, 0), 49);
        Check.due("sure of a", x.sure(1, 0, 0), 3);
        Check.due("sure of d", x.sure(1, 3, 0), 3);
        x.count(2, 0, 9, 3, 9, 55);
        Check.due("9 and 9 times for 55", x.meant(2, 0), 0);
        x.count(3, 2, 9, 3, 9, -54);
        Check.due("9 and 9 times for -54", x.meant(3, 0), 49);
        x.count(3, 0, 2, 1, 0, 3);
        Check.due("2 times for 3", x.meant(3, 0), 0);
    }

    private static void sureEdges() {
        Check.of("GAP if it is not the same in all, there are none, or one can't be");
        DogDecrees x = Check.village(FOUR);
        for (int n : Check.outside(0, 3)) {
            Check.due("sure(" + n + ", 0, 0)", x.sure(n, 0, 0), GAP);
            Check.due("sure(0, " + n + ", 0)", x.sure(0, n, 0), GAP);
        }
        Check.due("sure(3, 3, 0) of all tables", x.sure(3, 3, 0), GAP);
        x.count(3, 3, 1, 0, 0, -3);
        Check.due("sure(3, 3, 0)", x.sure(3, 3, 0), -3);
        // a CASE or a DEED that can't be is a GAP, though the other one is sure
        for (int n : Check.outside(0, 3)) {
            Check.due("sure(" + n + ", 3, 0)", x.sure(n, 3, 0), GAP);
            Check.due("sure(3, " + n + ", 0)", x.sure(3, n, 0), GAP);
        }
        x.count(0, 0, 1, 1, 3, 6);
        x.count(0, 2, 9, 2, 9, -54);
        Check.due("tables: a and b are 3 and 1, 0 and 2, -3 and 3", x.meant(0, 0), 21);
        Check.due("sure(0, 1, 0)", x.sure(0, 1, 0), GAP);
        Check.due("sure(0, 2, 0)", x.sure(0, 2, 0), -3);
        x.count(0, 0, 1, 2, 1, -3);
        Check.due("sure(0, 0, 0): one of three", x.sure(0, 0, 0), 0);
        Check.due("sure(0, 1, 0): one of three", x.sure(0, 1, 0), 2);
        x.count(0, 0, 1, 0, 0, 1);
        Check.due("sure(0, 1, 0) of none", x.sure(0, 1, 0), GAP);
        Check.due("sure(0, 0, 0) without DEEDS", Check.village("case w bar 1;").sure(0, 0, 0), GAP);
        Check.due("sure(0, 0, 0) without CASES", Check.village("deed a;").sure(0, 0, 0), GAP);
        x = Check.village("deed a;case w bar 1;");
        x.count(0, 0, 1, 0, 0, 3);
        Check.due("sure(0, 0, 0) of one table", x.sure(0, 0, 0), 3);
    }

    private static void askEdges() {
        Check.of("ASK what 0: the DEED, 1: how many are left at the most; NONE if there are none, without DEEDS, or one can't be");
        DogDecrees x = Check.village(FOUR);
        Check.due("ask(3, 0, 0)", x.ask(3, 0, 0), 0);
        Check.due("ask(3, 1, 0)", x.ask(3, 1, 0), 343);
        for (int n : Check.outside(0, 3)) {
            Check.due("ask(" + n + ", 0, 0)", x.ask(n, 0, 0), NONE);
            Check.due("ask(" + n + ", 1, 0)", x.ask(n, 1, 0), NONE);
        }
        for (int what : Check.outside(0, 1)) {
            Check.due("ask(0, " + what + ", 0)", x.ask(0, what, 0), NONE);
        }
        x.count(0, 0, 1, 0, 0, 9);
        Check.due("ask(0, 0, 0) of none", x.ask(0, 0, 0), NONE);
        Check.due("ask(0, 1, 0) of none", x.ask(0, 1, 0), NONE);
        Check.due("ask(0, 0, -1): known before", x.ask(0, 0, -1), 0);
        x = Check.village("case w bar 1;");
        Check.due("ask(0, 0, 0) without DEEDS", x.ask(0, 0, 0), NONE);
        Check.due("ask(0, 1, 0) without DEEDS", x.ask(0, 1, 0), NONE);
        Check.due("ask(0, 0, 0) without CASES", Check.village("deed a;").ask(0, 0, 0), NONE);
    }

    private static void likeOnes() {
        Check.of("the DEED of which to see what it counts would leave the fewest of these at the most; of like ones the first");
        DogDecrees x = Check.village(FOUR);
        // a is -3: to see it leaves all 343, any other one 49
        x.count(0, 0, 1, 0, 0, -3);
        Check.due("ask(0, 0, 0)", x.ask(0, 0, 0), 1);
        Check.due("ask(0, 1, 0)", x.ask(0, 1, 0), 49);
        // all but d are known: -3, 3, 0
        x.count(0, 1, 1, 0, 0, 3);
        x.count(0, 2, 1, 0, 0, 0);
        Check.due("ask: d", x.ask(0, 0, 0), 3);
        Check.due("left by d", x.ask(0, 1, 0), 1);
        x.count(0, 3, 1, 0, 0, -3);
        Check.due("ask of one table", x.ask(0, 0, 0), 0);
        Check.due("left of one table", x.ask(0, 1, 0), 1);
        // a + b is -4: -3 and -1, -2 and -2, -1 and -3; a and b leave 49 of 147, c and d 21
        x.count(1, 0, 1, 1, 1, -4);
        Check.due("ask: c, the first of c and d", x.ask(1, 0, 0), 2);
        Check.due("left by c", x.ask(1, 1, 0), 21);
        // c of 2a is -6, -4 .. 6: a is -1, 0, 1 and c -2, 0, 2; b and d are free: 3 * 49 tables
        x.count(2, 0, 2, 2, 1, 0);
        Check.due("tables", x.meant(2, 0), 147);
        Check.due("ask: b leaves 21, a and c leave 49", x.ask(2, 0, 0), 1);
        Check.due("left by b", x.ask(2, 1, 0), 21);
        // what it counts at the ends, -3 or 3, may be what leaves the most
        DogDecrees y = Check.village(SMALL);
        y.count(0, 0, 1, 1, 1, -6);
        Check.due("ask of -3 and -3", y.ask(0, 1, 0), 1);
        y.count(1, 0, 1, 0, 0, -3);
        Check.due("ask: b, as a leaves all", y.ask(1, 0, 0), 1);
        y = Check.village("deed a;case w bar 1;");
        y.count(0, 0, 1, 0, 0, 3);
        Check.due("left of 3 alone", y.ask(0, 1, 0), 1);
    }
}
