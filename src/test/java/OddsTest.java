/** Promises 15 to 23, 25 and 26: odds, layings, who fed it; each answer worked out by hand. */
public final class OddsTest {
    private static final int NONE = -1;
    private static final int GAP = -1000000;
    /** From both PLACES 1 of 4 leads to p, 3 of 4 to q. */
    private static final String TWO =
            "deed a;deed b;place p smell 1 does a;place q smell 3 does b;path p to q;pull smell+bones;";
    private static final String LATER =
            "deed a;place p smell 1 does a;place q smell 3 does a;path p to q;pull hour<";
    private static final String EVEN = "deed a;deed b;place p smell 1 does a;place q smell 1 does b;path p to q;";

    public static void main(String[] args) {
        where();
        pass();
        likelyAndHaunt();
        soon();
        layings();
        fullPlaces();
        least();
        turns();
        council();
        fed();
        withoutPlaces();
        Check.end("OddsTest");
    }

    private static void where() {
        DogDecrees x = Check.village(TWO);
        Check.odds("where(0, 0)", x.where(0, 0, 0), x.where(0, 0, 1), 1, 1);
        Check.odds("where(1, 0)", x.where(1, 0, 0), x.where(1, 0, 1), 0, 1);
        Check.odds("where(1, 1)", x.where(1, 1, 0), x.where(1, 1, 1), 3, 4);
        Check.odds("where(0, 8)", x.where(0, 8, 0), x.where(0, 8, 1), 1, 4);
        // 1 bone at p till the DAY ends: 2 of 5, then 1 of 4
        x = Check.village(TWO + "day 2;");
        x.lay(0);
        Check.odds("where(0, 1) with a bone", x.where(0, 1, 0), x.where(0, 1, 1), 2, 5);
        Check.odds("where(0, 2) with a bone", x.where(0, 2, 0), x.where(0, 2, 1), 2, 5);
        Check.odds("where(0, 3) without", x.where(0, 3, 0), x.where(0, 3, 1), 1, 4);
        // 1 of 7 is 9 of 60 DRAWS
        x = Check.village("deed a;place p smell 1 does a;place q smell 6 does a;path p to q;pull smell;");
        Check.odds("where(0, 1) by 1 of 7", x.where(0, 1, 0), x.where(0, 1, 1), 3, 20);
        // here: it stays by 2 of 3
        x = Check.village(EVEN + "pull 1+here;");
        Check.odds("where(0, 2) by here", x.where(0, 2, 0), x.where(0, 2, 1), 5, 9);
        // 7 of 60 to the 8th has no common divisor but of 60: 7^8 / 60^8
        x = Check.village("deed a;place p smell 1 does a;place q smell 0 does a;path p to q;pull 7+46*smell;start q;");
        Check.due("draws(1)", x.draws(1), 7);
        x = Check.village("deed a;place p smell 1 does a;place q smell 0 does a;path p to q;pull (7+46*smell)*(here=1 or smell=1)*(not(smell=1 and here=1));start q;");
        Check.odds("where(1, 1)", x.where(1, 1, 0), x.where(1, 1, 1), 7, 60);
        int[][] wrong = {{-1, 1, 0}, {2, 1, 0}, {0, -1, 0}, {0, 9, 0}, {0, 1, -1}, {0, 1, 2}};
        for (int[] w : wrong) {
            Check.due("where of what can't be", x.where(w[0], w[1], w[2]), NONE);
        }
        Check.due("nothing is done", x.about(6) + x.about(10), 0);
    }

    private static void pass() {
        DogDecrees x = Check.village(TWO + "case c bar 2;when b c 1;");
        Check.odds("pass(0, 0)", x.pass(0, 0, 0), x.pass(0, 0, 1), 0, 1);
        Check.odds("pass(0, 1)", x.pass(0, 1, 0), x.pass(0, 1, 1), 0, 1);
        Check.odds("pass(0, 2)", x.pass(0, 2, 0), x.pass(0, 2, 1), 9, 16);
        Check.odds("pass(0, 3)", x.pass(0, 3, 0), x.pass(0, 3, 1), 27, 32);
        // a falls by 1: only b first, or a and b in turn never reach 1 below
        x = Check.village(TWO + "case c bar 1;when b c 1;when a c -1;");
        Check.odds("pass with a fall", x.pass(0, 8, 0), x.pass(0, 8, 1), 3, 4);
        // it rises again from below 0: b, or a b b; it falls by a a
        x = Check.village(EVEN + "case c bar 2;when a c -1;when b c 2;");
        Check.odds("pass from below 0", x.pass(0, 3, 0), x.pass(0, 3, 1), 5, 8);
        Check.odds("pass from below 0, a b a b", x.pass(0, 4, 0), x.pass(0, 4, 1), 11, 16);
        x = Check.village(EVEN + "case c bar 15;when a c -3;when b c 3;");
        Check.odds("pass a far bar", x.pass(0, 5, 0), x.pass(0, 5, 1), 1, 32);
        Check.odds("pass a far bar in 7", x.pass(0, 7, 0), x.pass(0, 7, 1), 9, 128);
        // two CASES in turn: c in HOURS 0, 2, d in 1, 3
        x = Check.village(TWO + "case c bar 1;case d bar 2;when b c 3;when b d 1;");
        Check.odds("pass(0, 2)", x.pass(0, 2, 0), x.pass(0, 2, 1), 3, 4);
        Check.odds("pass(0, 3)", x.pass(0, 3, 0), x.pass(0, 3, 1), 15, 16);
        Check.odds("pass(1, 3)", x.pass(1, 3, 0), x.pass(1, 3, 1), 0, 1);
        Check.odds("pass(1, 4)", x.pass(1, 4, 0), x.pass(1, 4, 1), 9, 16);
        // PASSED, and FALLEN
        x = Check.village("deed a;place p smell 1 does a;case c bar 1;case d bar 1;when a c 1;when a d -1;");
        Check.odds("pass for certain", x.pass(0, 1, 0), x.pass(0, 1, 1), 1, 1);
        x.hour();
        x.hour();
        Check.odds("pass(0, 0) if PASSED", x.pass(0, 0, 0), x.pass(0, 0, 1), 1, 1);
        Check.odds("pass(0, 8) if PASSED", x.pass(0, 8, 0), x.pass(0, 8, 1), 1, 1);
        Check.odds("pass(1, 8) if FALLEN", x.pass(1, 8, 0), x.pass(1, 8, 1), 0, 1);
        int[][] wrong = {{-1, 1, 0}, {2, 1, 0}, {0, -1, 0}, {0, 9, 0}, {0, 1, -1}, {0, 1, 2}};
        for (int[] w : wrong) {
            Check.due("pass of what can't be", x.pass(w[0], w[1], w[2]), NONE);
        }
    }

    private static void likelyAndHaunt() {
        DogDecrees x = Check.village(TWO);
        Check.due("likely(0)", x.likely(0), 0);
        Check.due("likely(1)", x.likely(1), 1);
        Check.due("likely(8)", x.likely(8), 1);
        Check.due("likely(9)", x.likely(9), NONE);
        Check.due("likely(-1)", x.likely(-1), NONE);
        Check.due("haunt()", x.haunt(), 1);
        x = Check.village(EVEN + "start q;");
        Check.due("likely of like ones", x.likely(3), 0);
        Check.due("haunt of like ones", x.haunt(), 0);
        Check.due("likely now", x.likely(0), 1);
        // it goes to q and back again: the odd HOURS at q, the even ones at p
        x = Check.village(EVEN + "pull not here;");
        Check.due("likely of even ones", x.likely(4), 0);
        Check.due("likely of odd ones", x.likely(5), 1);
        Check.due("haunt: four HOURS at each", x.haunt(), 0);
        // it stays at p for so many HOURS of the DAY, then it goes to q for good
        Check.due("haunt: 3 to 5", Check.village(LATER + "3 and here or smell=3 and hour>2;").haunt(), 1);
        Check.due("haunt: 4 to 4", Check.village(LATER + "4 and here or smell=3 and hour>3;").haunt(), 0);
        Check.due("haunt: 5 to 3", Check.village(LATER + "5 and here or smell=3 and hour>4;").haunt(), 0);
        Check.due("likely(5): 5 to 3", Check.village(LATER + "5 and here or smell=3 and hour>4;").likely(5), 0);
        Check.due("likely(6): 5 to 3", Check.village(LATER + "5 and here or smell=3 and hour>4;").likely(6), 1);
    }

    private static void soon() {
        DogDecrees x = Check.village(TWO + "case c bar 3;when b c 1;");
        // 3 of 4 thrice: 27 of 64; within 4: 27 + 3 * 27 / 4 = 189 of 256
        Check.due("soon(0)", x.soon(0), 4);
        Check.due("soon(1)", x.soon(1), NONE);
        Check.due("soon(-1)", x.soon(-1), NONE);
        x = Check.village(EVEN + "case c bar 1;case d bar 15;case e bar 4;when b c 1;when a d 1;when b d 2;when a e -3;when b e 3;");
        // d and e are HEARD in HOURS 1, 4, 7 and 2, 5 alone; just a half is not enough for c at first
        Check.due("soon: a half is not more than a half", x.soon(0), 4);
        Check.due("soon: 8 are not enough", x.soon(1), NONE);
        Check.due("soon: 1 of 4 by 6", x.soon(2), NONE);
        x = Check.village("deed a;place p smell 1 does a;case c bar 8;when a c 1;");
        Check.due("soon: just 8", x.soon(0), 8);
        for (int i = 0; i < 8; i++) {
            x.hour();
        }
        Check.due("soon: now", x.soon(0), 0);
    }

    private static void layings() {
        DogDecrees x = Check.village(TWO + "case c bar 1;case d bar 1;case e bar 1;when a c 1;when b d 1;hears 2;");
        Check.odds("best(0, 1, 0)", x.best(0, 1, 0, 0), x.best(0, 1, 0, 1), 1, 4);
        Check.lie(x, 0, 0);
        // 5 of 8 are 38 of 60 DRAWS
        Check.odds("best(0, 1, 4)", x.best(0, 1, 4, 0), x.best(0, 1, 4, 1), 19, 30);
        Check.lie(x, 4, 0);
        // d is HEARD from HOUR 2 on
        Check.odds("best(1, 2, 3)", x.best(1, 2, 3, 0), x.best(1, 2, 3, 1), 0, 1);
        Check.lie(x, 3, 0);
        Check.odds("best(1, 3, 2)", x.best(1, 3, 2, 0), x.best(1, 3, 2, 1), 5, 6);
        Check.lie(x, 0, 2);
        Check.odds("best(2, 6, 1)", x.best(2, 6, 1, 0), x.best(2, 6, 1, 1), 0, 1);
        Check.lie(x, 1, 0);
        Check.due("nothing is laid", x.about(9) + x.about(10), 0);
        int[][] wrong = {{-1, 1, 1, 0}, {3, 1, 1, 0}, {0, 0, 1, 0}, {0, 7, 1, 0}, {0, 1, -1, 0}, {0, 1, 5, 0},
            {0, 1, 1, -1}, {0, 1, 1, 2}};
        for (int[] w : wrong) {
            x.best(0, 1, 1, 0);
            Check.due("best of what can't be", x.best(w[0], w[1], w[2], w[3]), NONE);
            Check.lie(x);
        }
        // a bone counts up to 1 at each PLACE alone: three even ones by 2 of 4 together
        x = Check.village("deed a;deed b;place p smell 1 does a;place q smell 1 does a;place r smell 1 does b;"
                + "path r to p;path r to q;start r;pull 1+(bones>0);case c bar 1;when a c 1;");
        Check.odds("best by one each", x.best(0, 1, 2, 0), x.best(0, 1, 2, 1), 4, 5);
        Check.lie(x, 1, 1, 0);
        Check.odds("best: of like ones the most first", x.best(0, 1, 3, 0), x.best(0, 1, 3, 1), 4, 5);
        Check.lie(x, 2, 1, 0);
    }

    private static void fullPlaces() {
        DogDecrees x = Check.village(TWO + "case c bar 1;when a c 1;day 24;");
        for (int i = 0; i < 9; i++) {
            x.lay(i < 8 ? 0 : 1);
        }
        // p has 8 bones: one more there, the rest at q. 10 of 10 + 3 + 1 + 2
        Check.odds("best with 9 at most", x.best(0, 1, 3, 0), x.best(0, 1, 3, 1), 19, 30);
        Check.lie(x, 1, 2);
        for (int i = 0; i < 8; i++) {
            x.lay(1);
        }
        Check.due("best: just one can be laid", x.best(0, 1, 1, 1) > 0, true);
        Check.lie(x, 1, 0);
        Check.due("best: two can't be laid", x.best(0, 1, 2, 0), NONE);
        Check.lie(x);
        Check.due("byTurns: two can't be laid", x.byTurns(0, 1, 0), NONE);
        Check.due("byTurns: two can't be laid", x.byTurns(0, 1, 1), NONE);
        x.take(1);
        Check.due("byTurns: two can be laid", x.byTurns(0, 1, 0), 0);
        Check.due("byTurns: just there", x.byTurns(0, 1, 1), 1);
        x.lay(0);
        Check.due("byTurns: the last one at q, none behind", x.byTurns(0, 1, 0), NONE);
        x.take(1);
        Check.due("byTurns: both at q", x.byTurns(0, 1, 0), 1);
        Check.due("byTurns: both at q", x.byTurns(0, 1, 1), 1);
        x.lay(1);
        x.lay(1);
        Check.due("best: none can be laid", x.best(0, 1, 1, 0), NONE);
        Check.due("best: none of none", x.best(0, 1, 0, 0) > 0, true);
        Check.lie(x, 0, 0);
    }

    private static void least() {
        DogDecrees x = Check.village(TWO + "case c bar 1;case d bar 1;case e bar 1;when a c 1;when b d 1;hears 2;");
        // 1 + k of 4 + k are more than a half for k of 3: 4 of 7 (35 of 60 DRAWS)
        Check.due("least(0, 1)", x.least(0, 1), 3);
        Check.lie(x, 3, 0);
        Check.due("least(0, 2)", x.least(0, 2), 1);
        Check.lie(x, 1, 0);
        Check.due("least(1, 3)", x.least(1, 3), 0);
        Check.lie(x, 0, 0);
        Check.due("least(2, 6)", x.least(2, 6), NONE);
        Check.lie(x);
        int[][] wrong = {{-1, 1}, {3, 1}, {0, 0}, {0, 7}, {0, -1}};
        for (int[] w : wrong) {
            x.least(1, 3);
            Check.due("least of what can't be", x.least(w[0], w[1]), NONE);
            Check.lie(x);
        }
        x = Check.village("deed a;deed b;place p smell 1 does a;place q smell 6 does b;path p to q;"
                + "pull smell+bones;case c bar 1;when a c 1;");
        Check.due("least: 4 are not enough", x.least(0, 1), NONE);
    }

    private static void turns() {
        DogDecrees x = Check.village(TWO + "case c bar 1;case d bar 1;when a c 1;when b d 1;");
        Check.due("byTurns(0, 1, 0)", x.byTurns(0, 1, 0), 0);
        Check.due("byTurns(0, 1, 1)", x.byTurns(0, 1, 1), 1);
        Check.due("byTurns(1, 2, 0)", x.byTurns(1, 2, 0), 1);
        Check.due("byTurns(1, 2, 1)", x.byTurns(1, 2, 1), 0);
        Check.due("byTurns of like ones", x.byTurns(1, 1, 0), 0);
        Check.due("byTurns of like ones", x.byTurns(1, 1, 1), 0);
        x.best(0, 1, 4, 0);
        x.byTurns(0, 1, 0);
        Check.lie(x, 4, 0);
        int[][] wrong = {{-1, 1, 0}, {2, 1, 0}, {0, 0, 0}, {0, 7, 0}, {0, 1, -1}, {0, 1, 2}};
        for (int[] w : wrong) {
            Check.due("byTurns of what can't be", x.byTurns(w[0], w[1], w[2]), NONE);
        }
        Check.lie(x, 4, 0);
    }

    private static void council() {
        // a row p q r s: b is done at s alone
        DogDecrees x = Check.village("deed a;deed b;place p smell 0 does a;place q smell 1 does a;place r smell 2 does a;"
                + "place s smell 9 does b;path p to q;path q to r;path r to s;pull smell*smell;case c bar 1;when b c 1;");
        Check.due("council(0, 0)", x.council(0, 0), 0);
        Check.due("council(0, 1)", x.council(0, 1), 12);
        Check.due("council(0, 2)", x.council(0, 2), 14);
        Check.due("council(0, 3)", x.council(0, 3), 15);
        Check.due("council(0, 9)", x.council(0, 9), NONE);
        Check.due("council(0, -1)", x.council(0, -1), NONE);
        Check.due("council(1, 1)", x.council(1, 1), NONE);
        Check.due("council(-1, 1)", x.council(-1, 1), NONE);
        for (int i = 0; i < 10 && x.hearing(0, 2) == 0; i++) {
            x.hour();
        }
        Check.due("council if PASSED", x.council(0, 0), 15);
    }

    private static void fed() {
        DogDecrees x = Check.village(TWO + "draw 5;day 24;");
        Check.due("fed(1) without a WALK", x.fed(1), NONE);
        Check.due("hour()", x.hour(), 1);
        Check.due("fed(1)", x.fed(1), 1);
        Check.due("fed(2)", x.fed(2), NONE);
        Check.due("fed(0)", x.fed(0), NONE);
        Check.due("fed(9)", x.fed(9), NONE);
        Check.due("fed(-1)", x.fed(-1), NONE);
        for (int i = 0; i < 12; i++) {
            x.hour();
        }
        Check.due("fed(9) of 13", x.fed(9), NONE);
        // p once and q once: 2 * 3 of 5 * 5 with a bone at p, 1 * 4 with one at q
        x = Check.village(TWO + "draw 5;day 24;");
        int at = 0;
        for (int i = 0; i < 40 && at == 0; i++) {
            x.hour();
            at = x.walk(0) != x.walk(1) && x.walk(1) != NONE ? 1 : 0;
        }
        Check.due("a WALK of both", at, 1);
        Check.due("fed(2) of both", x.fed(2), 0);
        // the start is ahead of the WALK's first: only a stay there is likelier by a bone
        x = Check.village(EVEN + "start q;pull 1+bones*here;draw 0;");
        Check.due("hour() by 71: 11 of 60", x.hour(), 0);
        Check.due("fed(1): gone from q, a bone there would have kept it", x.fed(1), 0);
        // of like ones the first, even if none can be
        x = Check.village(EVEN + "pull hour=0 or here;draw 30;");
        Check.due("hour() by 181: 1 of 60", x.hour(), 0);
        Check.due("fed of like ones", x.fed(1), 0);
    }

    private static void withoutPlaces() {
        DogDecrees x = Check.village("deed a;case c bar 1;when a c 1;");
        Check.odds("pass without PLACES", x.pass(0, 8, 0), x.pass(0, 8, 1), 0, 1);
        Check.due("where without PLACES", x.where(0, 0, 0), NONE);
        Check.due("likely without PLACES", x.likely(0), NONE);
        Check.due("haunt without PLACES", x.haunt(), NONE);
        Check.due("soon without PLACES", x.soon(0), NONE);
        Check.due("best of 1 without PLACES", x.best(0, 1, 1, 0), NONE);
        Check.due("least without PLACES", x.least(0, 1), NONE);
        Check.due("byTurns without PLACES", x.byTurns(0, 1, 0), NONE);
        Check.due("draws without PLACES", x.draws(0), NONE);
        Check.due("fed without PLACES", x.fed(1), NONE);
        Check.due("lies then", x.lies(0), GAP);
    }
}
