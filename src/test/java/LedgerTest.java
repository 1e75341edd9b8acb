/** Promises 27 to 32: COUNTS, told and untold, and what the table means by them. */
public final class LedgerTest {
    private static final int NONE = -1;
    private static final int GAP = -1000000;
    private static final String FOUR = "deed a;deed b;deed c;deed d;case x bar 1;case y bar 1;when a x 3;";

    public static void main(String[] args) {
        telling();
        times();
        meaning();
        asking();
        fewDeeds();
        Check.end("LedgerTest");
    }

    private static void telling() {
        DogDecrees x = Check.village(FOUR);
        int[][] wrong = {{-1, 0, 1, 0, 1, 0}, {2, 0, 1, 0, 1, 0}, {0, -1, 1, 0, 1, 0}, {0, 4, 1, 0, 1, 0},
            {0, 0, -1, 0, 1, 0}, {0, 0, 10, 0, 1, 0}, {0, 0, 1, -1, 1, 0}, {0, 0, 1, 4, 1, 0}, {0, 0, 1, 0, -1, 0},
            {0, 0, 1, 0, 10, 0}, {0, 0, 1, 0, 1, -100}, {0, 0, 1, 0, 1, 100}};
        for (int[] w : wrong) {
            Check.due("count of what can't be", x.count(w[0], w[1], w[2], w[3], w[4], w[5]), NONE);
        }
        Check.due("about(12)", x.about(12), 0);
        Check.due("untell(0) of none", x.untell(0), false);
        int[][] fine = {{1, 3, 9, 3, 9, 99}, {1, 3, 0, 3, 0, -99}, {0, 0, 0, 0, 0, 0}};
        for (int i = 0; i < 30; i++) {
            int[] f = fine[i % 3];
            Check.due("count", x.count(f[0], f[1], f[2], f[3], f[4], f[5]), i);
        }
        Check.due("a count beyond 30", x.count(0, 0, 0, 0, 0, 0), NONE);
        Check.due("about(12) of 30", x.about(12), 30);
        Check.due("untell(30)", x.untell(30), false);
        Check.due("untell(-1)", x.untell(-1), false);
        Check.due("untell(29)", x.untell(29), true);
        Check.due("untell(29) again", x.untell(29), false);
        Check.due("about(12) then", x.about(12), 30);
        Check.due("a count beyond 30 still", x.count(0, 0, 0, 0, 0, 0), NONE);
    }

    private static void times() {
        DogDecrees x = Check.village(FOUR);
        Check.due("later(0)", x.later(0), 0);
        Check.due("later(-1)", x.later(-1), NONE);
        Check.due("later(1001)", x.later(1001), NONE);
        Check.due("later(MAX)", x.later(Integer.MAX_VALUE), NONE);
        Check.due("later(10)", x.later(10), 10);
        x.count(0, 0, 1, 0, 0, 2);
        x.later(5);
        x.count(0, 1, 1, 0, 0, -1);
        x.later(5);
        Check.due("untell(0)", x.untell(0), true);
        int[][] due = {{Integer.MIN_VALUE, 2401}, {-1, 2401}, {0, 2401}, {9, 2401}, {10, 343}, {14, 343}, {15, 49},
            {19, 49}, {20, 343}, {21, 343}, {Integer.MAX_VALUE, 343}};
        for (int[] d : due) {
            Check.due("meant(0, " + d[0] + ")", x.meant(0, d[0]), d[1]);
            Check.due("meant(1, " + d[0] + ")", x.meant(1, d[0]), 2401);
        }
        Check.due("sure(0, 0, 19)", x.sure(0, 0, 19), 2);
        Check.due("sure(0, 0, 20)", x.sure(0, 0, 20), GAP);
        Check.due("sure(0, 1, 20)", x.sure(0, 1, 20), -1);
        x.count(0, 3, 1, 3, 0, 0);
        x.untell(2);
        Check.due("told and untold at once", x.meant(0, 20), 343);
        for (int i = 0; i < 99; i++) {
            x.later(1000);
        }
        Check.due("the TIME", x.about(13), 99020);
        Check.due("later(981)", x.later(981), NONE);
        Check.due("later(980)", x.later(980), 100000);
        Check.due("later(1) beyond", x.later(1), NONE);
        Check.due("later(0) there", x.later(0), 100000);
        Check.due("the TIME stays", Check.tell(x, FOUR), 0);
        Check.due("about(13)", x.about(13), 100000);
    }

    private static void meaning() {
        DogDecrees x = Check.village(FOUR);
        Check.due("meant(0, 0), whatever when tells", x.meant(0, 0), 2401);
        Check.due("meant(2, 0)", x.meant(2, 0), NONE);
        Check.due("meant(-1, 0)", x.meant(-1, 0), NONE);
        Check.due("sure(0, 0, 0)", x.sure(0, 0, 0), GAP);
        // a + b = 6: both are 3
        x.count(0, 0, 1, 1, 1, 6);
        Check.due("meant(0, 0)", x.meant(0, 0), 49);
        Check.due("meant(1, 0)", x.meant(1, 0), 2401);
        Check.due("sure(0, 0, 0)", x.sure(0, 0, 0), 3);
        Check.due("sure(0, 1, 0)", x.sure(0, 1, 0), 3);
        Check.due("sure(0, 2, 0)", x.sure(0, 2, 0), GAP);
        // the same one twice: 2c + 3c = -15
        x.count(0, 2, 2, 2, 3, -15);
        Check.due("sure(0, 2, 0)", x.sure(0, 2, 0), -3);
        Check.due("meant(0, 0) by both", x.meant(0, 0), 7);
        // 9a + 9a = 99 can't be
        x.count(0, 0, 9, 0, 9, 99);
        Check.due("meant(0, 0) of none", x.meant(0, 0), 0);
        Check.due("sure of none", x.sure(0, 0, 0), GAP);
        Check.due("ask of none", x.ask(0, 0, 0), NONE);
        Check.due("ask of none, how many", x.ask(0, 1, 0), NONE);
        // nothing of nothing is 5
        x.count(1, 0, 0, 1, 0, 5);
        Check.due("meant by 0 times", x.meant(1, 0), 0);
        int[][] wrong = {{-1, 0}, {2, 0}, {0, -1}, {0, 4}};
        for (int[] w : wrong) {
            Check.due("sure of what can't be", x.sure(w[0], w[1], 0), GAP);
        }
    }

    private static void asking() {
        DogDecrees x = Check.village(FOUR);
        Check.due("ask of like ones", x.ask(0, 0, 0), 0);
        Check.due("left at the most", x.ask(0, 1, 0), 343);
        Check.due("ask(0, 2, 0)", x.ask(0, 2, 0), NONE);
        Check.due("ask(0, -1, 0)", x.ask(0, -1, 0), NONE);
        Check.due("ask(2, 0, 0)", x.ask(2, 0, 0), NONE);
        Check.due("ask(-1, 0, 0)", x.ask(-1, 0, 0), NONE);
        // a is 0: to see it leaves all, to see b leaves a seventh
        x.count(0, 0, 1, 0, 0, 0);
        Check.due("ask: b", x.ask(0, 0, 0), 1);
        Check.due("left by b", x.ask(0, 1, 0), 49);
        // 3c + b = 0: b and c leave 7 of 21, d leaves 3
        x.count(0, 2, 3, 1, 1, 0);
        Check.due("meant(0, 0)", x.meant(0, 0), 21);
        Check.due("ask: d", x.ask(0, 0, 0), 3);
        Check.due("left by d", x.ask(0, 1, 0), 3);
        x.count(0, 3, 2, 2, 2, 0);
        // d = -c: three tables, each of b, c, d leaves 1
        Check.due("meant(0, 0)", x.meant(0, 0), 3);
        Check.due("ask: b, the first of three", x.ask(0, 0, 0), 1);
        Check.due("left then", x.ask(0, 1, 0), 1);
    }

    private static void fewDeeds() {
        DogDecrees x = Check.village("case x bar 1;");
        Check.due("meant without DEEDS", x.meant(0, 0), 1);
        Check.due("sure without DEEDS", x.sure(0, 0, 0), GAP);
        Check.due("ask without DEEDS", x.ask(0, 0, 0), NONE);
        Check.due("ask without DEEDS, how many", x.ask(0, 1, 0), NONE);
        Check.due("count without DEEDS", x.count(0, 0, 0, 0, 0, 0), NONE);
        x = Check.village("deed a;case x bar 1;");
        Check.due("meant of one DEED", x.meant(0, 0), 7);
        Check.due("left of one DEED", x.ask(0, 1, 0), 1);
        x = Check.village("deed a;");
        Check.due("meant without CASES", x.meant(0, 0), NONE);
        Check.due("count without CASES", x.count(0, 0, 0, 0, 0, 0), NONE);
    }
}
