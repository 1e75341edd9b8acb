/** Each sentence of "Terms", part 3, and of promises 15 to 23, 25 and 26 that names an edge. */
public final class OddsEdgesTest {
    private static final int NONE = -1;
    private static final int GAP = -1000000;
    private static final String EIGHT = "deed a;place a smell 1 does a;place b smell 1 does a;place c smell 1 does a;"
            + "place d smell 1 does a;place e smell 1 does a;place f smell 1 does a;place g smell 1 does a;place h smell 1 does a;";
    private static final String ONE = "deed a;place p smell 1 does a;";
    private static final String PAIR = "deed a;deed b;place p smell 1 does a;place q smell 3 does b;path p to q;";
    /** From both PLACES 1 of 4 leads to p, 3 of 4 to q. */
    private static final String QUARTER = PAIR + "pull smell+bones;";
    /** From both PLACES the one half leads to p, the other one to q. */
    private static final String HALF = PAIR + "pull 1;";
    /** It stays at p by 7 of 60, and at q for good. */
    private static final String SEVEN = PAIR + "pull 7*here*(smell=1)+53*(smell=3);";
    private static final long[] SEVENS = {1L, 7L, 49L, 343L, 2401L, 16807L, 117649L, 823543L, 5764801L};
    private static final long[] SIXTIES = {1L, 60L, 3600L, 216000L, 12960000L, 777600000L, 46656000000L, 2799360000000L,
        167961600000000L};

    public static void main(String[] args) {
        nothingIsDone();
        whereEdges();
        passEdges();
        dayEndsAhead();
        heardAhead();
        likelyEdges();
        soonEdges();
        bestEdges();
        justSoMany();
        nineAtMost();
        theMostFirst();
        leastEdges();
        layAtTheDaysEnd();
        turnsEdges();
        councilEdges();
        hauntEdges();
        fedEdges();
        fedAsItIsNow();
        fedFromTheStart();
        liesEdges();
        withoutPlaces();
        Check.end("OddsEdgesTest");
    }

    private static void where(DogDecrees x, int place, int n, long upper, long lower) {
        Check.odds("where(" + place + ", " + n + ")", x.where(place, n, 0), x.where(place, n, 1), upper, lower);
    }

    private static void pass(DogDecrees x, int which, int n, long upper, long lower) {
        Check.odds("pass(" + which + ", " + n + ")", x.pass(which, n, 0), x.pass(which, n, 1), upper, lower);
    }

    private static void best(DogDecrees x, int which, int n, int k, long upper, long lower) {
        Check.odds("best(" + which + ", " + n + ", " + k + ")", x.best(which, n, k, 0), x.best(which, n, k, 1), upper, lower);
    }

    private static DogDecrees walked(String text, int hours) {
        DogDecrees x = Check.village(text);
        for (int i = 0; i < hours; i++) {
            x.hour();
        }
        return x;
    }

    // ---- where it will be

    private static void nothingIsDone() {
        Check.of("From what is now; nothing is done. Each HOUR has each DRAW by the same odds, whatever the SEED is");
        String text = QUARTER + "case c bar 2;when b c 1;day 5;";
        DogDecrees x = walked(text, 3);
        DogDecrees y = walked(text, 3);
        x.lay(0);
        y.lay(0);
        x.undo();
        y.undo();
        x.where(0, 8, 0);
        x.pass(0, 8, 1);
        x.likely(8);
        x.soon(0);
        x.best(0, 6, 4, 0);
        x.least(0, 6);
        x.byTurns(0, 6, 0);
        x.council(0, 8);
        x.haunt();
        x.fed(3);
        for (int what = 0; what < 16; what++) {
            Check.due("about(" + what + ")", x.about(what), y.about(what));
        }
        Check.due("SCORE", x.hearing(0, 0), y.hearing(0, 0));
        Check.due("bones at p", x.place(0, 1), 0);
        Check.due("bones at q", x.place(1, 1), 0);
        Check.due("walk(0)", x.walk(0), y.walk(0));
        Check.due("redo()", x.redo(), true);
        // q pulls by 1, a DAY later by 2, then by 3: nothing is left of what byTurns looked at a DAY later
        x = Check.village(PAIR + "pull 1+(smell=3)*age;day 1;case c bar 2;when b c 1;");
        x.hour();
        x.byTurns(0, 2, 0);
        x.undo();
        best(x, 0, 2, 0, 1, 3);
        for (int draw : new int[] {0, 1, 500, 817, 999}) {
            x = Check.village(QUARTER + "draw " + draw + ";");
            where(x, 0, 1, 1, 4);
            where(x, 1, 8, 3, 4);
        }
    }

    private static void whereEdges() {
        Check.of("odds behind n HOURS are by 60 to the n");
        DogDecrees x = Check.village(SEVEN);
        for (int n = 0; n <= 8; n++) {
            where(x, 0, n, SEVENS[n], SIXTIES[n]);
            where(x, 1, n, SIXTIES[n] - SEVENS[n], n == 0 ? 1 : SIXTIES[n]);
        }
        // 1 of 100 leads to p: DRAW 0 alone
        x = Check.village(PAIR + "pull 49*smell-48;");
        where(x, 0, 1, 1, 60);
        where(x, 1, 1, 59, 60);
        where(x, 0, 2, 1, 60);
        // 1 of 7 leads to p: DRAWS 0 .. 8 of 60
        x = Check.village("deed a;place p smell 1 does a;place q smell 6 does a;path p to q;pull smell;");
        where(x, 0, 1, 3, 20);
        Check.of("WHERE (n 0 .. 8) the upper part (0), the lower part (1), in lowest terms (0 of 1)");
        x = Check.village(EIGHT + "path a to h;start h;");
        where(x, 7, 0, 1, 1);
        where(x, 0, 0, 0, 1);
        where(x, 7, 8, 1, 2);
        where(x, 3, 8, 0, 1);
        where(x, 0, 1, 1, 2);
        Check.of("NONE if one can't be");
        for (int part = 0; part < 2; part++) {
            for (int p : Check.outside(0, 7)) {
                Check.due("where(" + p + ", 1, " + part + ")", x.where(p, 1, part), NONE);
            }
            for (int n : Check.outside(0, 8)) {
                Check.due("where(0, " + n + ", " + part + ")", x.where(0, n, part), NONE);
            }
        }
        for (int part : Check.outside(0, 1)) {
            Check.due("where(0, 1, " + part + ")", x.where(0, 1, part), NONE);
        }
        Check.due("where(1, 0, 0) of one", Check.village(ONE).where(1, 0, 0), NONE);
    }

    private static void passEdges() {
        Check.of("PASS (n 0 .. 8) likewise");
        DogDecrees x = Check.village(SEVEN + "case c bar 1;when b c 1;");
        for (int n = 0; n <= 8; n++) {
            pass(x, 0, n, SIXTIES[n] - SEVENS[n], n == 0 ? 1 : SIXTIES[n]);
        }
        for (int part = 0; part < 2; part++) {
            for (int c : Check.outside(0, 0)) {
                Check.due("pass(" + c + ", 1, " + part + ")", x.pass(c, 1, part), NONE);
            }
            for (int n : Check.outside(0, 8)) {
                Check.due("pass(0, " + n + ", " + part + ")", x.pass(0, n, part), NONE);
            }
        }
        for (int part : Check.outside(0, 1)) {
            Check.due("pass(0, 1, " + part + ")", x.pass(0, 1, part), NONE);
        }
        Check.of("odds that a CASE is PASSED within n HOURS (1 of 1 if it is already)");
        x = walked(ONE + "case c bar 1;case d bar 1;case e bar 15;when a c 3;when a d -3;", 2);
        for (int n = 0; n <= 8; n++) {
            pass(x, 0, n, 1, 1);
            pass(x, 1, n, 0, 1);
            pass(x, 2, n, 0, 1);
        }
        // the first HOUR decides: it is PASSED for good, or FALLEN for good
        x = Check.village(HALF + "case c bar 1;when a c -1;when b c 1;");
        pass(x, 0, 1, 1, 2);
        pass(x, 0, 3, 1, 2);
        // c is HEARD in HOURS 0 and 4
        x = Check.village(HALF + "case c bar 1;case d bar 1;case e bar 1;case f bar 1;when b c 1;");
        for (int n = 1; n <= 8; n++) {
            pass(x, 0, n, n < 5 ? 1 : 3, n < 5 ? 2 : 4);
        }
        // a SCORE of 14 is not PASSED by an HOUR in which another CASE is HEARD
        x = walked(PAIR + "day 24;pull here or hour>12;case c bar 15;case d bar 1;when a c 2;", 13);
        Check.due("SCORE", x.hearing(0, 0), 14);
        pass(x, 0, 1, 0, 1);
        pass(x, 0, 2, 1, 2);
        // a far bar: 5 times 3 of 15, none left out
        x = Check.village(HALF + "case c bar 15;when a c -3;when b c 3;");
        pass(x, 0, 4, 0, 1);
        pass(x, 0, 5, 1, 32);
        // from -9 up to 15: eight times 3
        x = walkedTo(HALF + "case c bar 15;when a c -3;when b c 3;", 0, 0, 0);
        Check.due("SCORE", x.hearing(0, 0), -9);
        pass(x, 0, 7, 0, 1);
        pass(x, 0, 8, 1, 256);
        // b b is PASSED, a a FALLEN, a b and b a are as at first
        x = Check.village(HALF + "case c bar 2;when a c -1;when b c 1;");
        pass(x, 0, 2, 1, 4);
        pass(x, 0, 4, 3, 8);
    }

    private static void dayEndsAhead() {
        Check.of("behind the last one of the DAY all bones are gone");
        DogDecrees x = Check.village(QUARTER + "day 2;");
        x.lay(0);
        where(x, 0, 1, 2, 5);
        where(x, 0, 2, 2, 5);
        where(x, 0, 3, 1, 4);
        x.hour();
        where(x, 0, 1, 2, 5);
        where(x, 0, 2, 1, 4);
        x.lay(1);
        where(x, 0, 1, 1, 3);
        x = Check.village(QUARTER + "day 1;");
        x.lay(0);
        where(x, 0, 1, 2, 5);
        where(x, 0, 2, 1, 4);
        Check.of("the age is more by one (99 at most), and HOUR 0 begins");
        // q pulls by 3 from age 6 on
        x = Check.village(PAIR + "day 1;age 5;pull 1+(age>5)*(smell=3)*2;");
        where(x, 0, 1, 1, 2);
        where(x, 0, 2, 1, 4);
        x = Check.village(PAIR + "day 1;age 98;pull 1+(age>99)*(smell=3)*2+(age=99)*(smell=1)*2;");
        where(x, 0, 1, 1, 2);
        where(x, 0, 2, 3, 4);
        where(x, 0, 8, 3, 4);
        // it goes to the other PLACE in HOUR 2 alone
        x = Check.village(PAIR + "day 3;pull (hour=2)=(1-here);");
        int[] at = {0, 0, 0, 1, 1, 1, 0, 0, 0};
        for (int n = 0; n <= 8; n++) {
            where(x, 1, n, at[n], 1);
            Check.due("likely(" + n + ")", x.likely(n), at[n]);
        }
    }

    private static void heardAhead() {
        Check.of("of the HOURS that were, by hears, cut, its rest by how many CASES there are");
        // c is HEARD in HOURS 0, 1, 4, 5, 8, d in 2, 3, 6, 7
        String text = ONE + "case c bar 3;case d bar 4;when a c 1;when a d 1;hears 2;";
        DogDecrees x = Check.village(text);
        pass(x, 0, 4, 0, 1);
        pass(x, 0, 5, 1, 1);
        pass(x, 1, 7, 0, 1);
        pass(x, 1, 8, 1, 1);
        Check.due("soon(0)", x.soon(0), 5);
        Check.due("soon(1)", x.soon(1), 8);
        x = walked(text, 3);
        pass(x, 0, 1, 0, 1);
        pass(x, 0, 2, 1, 1);
        pass(x, 1, 4, 0, 1);
        pass(x, 1, 5, 1, 1);
        // the HOURS that were go on over the DAY's end
        x = Check.village(text + "day 1;");
        pass(x, 0, 4, 0, 1);
        pass(x, 0, 5, 1, 1);
    }

    private static void likelyEdges() {
        Check.of("the PLACE of greatest odds behind n HOURS; of like ones the first");
        DogDecrees x = Check.village(HALF + "start q;");
        Check.due("likely(0)", x.likely(0), 1);
        for (int n = 1; n <= 8; n++) {
            Check.due("likely(" + n + ") of like ones", x.likely(n), 0);
        }
        x = Check.village(EIGHT + "path g to h;start h;");
        Check.due("likely(1) of g and h", x.likely(1), 6);
        Check.due("likely(0) of h", x.likely(0), 7);
        Check.of("LIKELY (n 0 .. 8); NONE without PLACES, or for another n");
        for (int n : Check.outside(0, 8)) {
            Check.due("likely(" + n + ")", x.likely(n), NONE);
        }
        Check.due("likely(0) without PLACES", Check.village("deed a;").likely(0), NONE);
        Check.due("likely(8) without PLACES", Check.village("deed a;").likely(8), NONE);
    }

    private static void soonEdges() {
        Check.of("the fewest HOURS (8 at most) within which the odds to PASS are more than a half");
        DogDecrees x = Check.village(HALF + "case c bar 1;when b c 1;");
        pass(x, 0, 1, 1, 2);
        Check.due("soon(0): a half is not more", x.soon(0), 2);
        for (int bar = 1; bar <= 10; bar++) {
            x = Check.village(ONE + "case c bar " + bar + ";when a c 1;");
            Check.due("soon(0) to " + bar, x.soon(0), bar <= 8 ? bar : NONE);
        }
        // d is HEARD in HOUR 7 for the first time
        x = Check.village(HALF + "case c bar 1;case d bar 1;when b d 1;hears 7;");
        pass(x, 1, 8, 1, 2);
        Check.due("soon(1): a half behind 8", x.soon(1), NONE);
        x = Check.village(QUARTER + "case c bar 1;case d bar 1;when b d 1;hears 7;");
        Check.due("soon(1): 3 of 4 behind 8", x.soon(1), 8);
        Check.of("SOON (0: now); NONE if 8 are not enough, or there is no such CASE");
        x = walked(ONE + "case c bar 1;case d bar 1;when a c 1;when a d -1;", 2);
        Check.due("soon(0) of what is PASSED", x.soon(0), 0);
        Check.due("soon(1) of what is FALLEN", x.soon(1), NONE);
        for (int c : Check.outside(0, 1)) {
            Check.due("soon(" + c + ")", x.soon(c), NONE);
        }
    }

    // ---- where to lay

    private static void bestEdges() {
        Check.of("LAY (n 1 .. 6) the upper part (0), the lower part (1) of PASS then; NONE if one can't be, or so many can't be "
                + "laid");
        DogDecrees x = Check.village(QUARTER + "case c bar 6;case d bar 1;when b c 1;when a d 1;hears 6;");
        // six times at q: by 3 of 4, 4 of 5, 5 of 6, 6 of 7 (51 DRAWS of 60), 7 of 8 (52 DRAWS)
        long[][] due = {{729, 4096}, {4096, 15625}, {15625, 46656}, {24137569, 64000000}, {4826809, 11390625}};
        for (int k = 0; k <= 4; k++) {
            best(x, 0, 6, k, due[k][0], due[k][1]);
            Check.lie(x, 0, k);
        }
        best(x, 0, 5, 4, 0, 1);
        best(x, 0, 1, 4, 0, 1);
        for (int part = 0; part < 2; part++) {
            for (int c : Check.outside(0, 1)) {
                refused(x, c, 1, 1, part);
            }
            for (int n : Check.outside(1, 6)) {
                refused(x, 0, n, 1, part);
            }
            for (int k : Check.outside(0, 4)) {
                refused(x, 0, 1, k, part);
            }
        }
        for (int part : Check.outside(0, 1)) {
            refused(x, 0, 1, 1, part);
        }
    }

    private static void refused(DogDecrees x, int which, int n, int k, int part) {
        x.best(0, 1, 1, 0);
        Check.due("best(" + which + ", " + n + ", " + k + ", " + part + ")", x.best(which, n, k, part), NONE);
        Check.due("behind NONE: nothing", x.about(16), 0);
    }

    private static void justSoMany() {
        Check.of("how to lay just so many more now");
        // a bone makes p less (3 to 1) and q more (3 to 6): none at all would be the best for c
        DogDecrees x = Check.village(PAIR + "pull 3-(bones>0)*(smell=1)*2+(bones>0)*(smell=3)*3;case c bar 1;when a c 1;");
        best(x, 0, 1, 0, 1, 2);
        Check.lie(x, 0, 0);
        best(x, 0, 1, 1, 1, 3);
        Check.lie(x, 0, 1);
        best(x, 0, 1, 4, 1, 3);
        Check.lie(x, 0, 4);
        x.lay(1);
        x.lay(0);
        best(x, 0, 1, 0, 3, 20);
        Check.due("nothing is laid in earnest", x.about(9), 2);
    }

    private static void layAll(DogDecrees x, int place, int bones) {
        for (int i = 0; i < bones; i++) {
            x.lay(place);
        }
    }

    private static void nineAtMost() {
        Check.of("(9 at a PLACE at most) so that PASS is greatest");
        DogDecrees x = Check.village(QUARTER + "case c bar 1;when a c 1;day 24;");
        layAll(x, 0, 8);
        // 10 of 15 with one more at p and two at q
        best(x, 0, 1, 3, 2, 3);
        Check.lie(x, 1, 2);
        x.lay(0);
        // 10 of 17: 36 DRAWS
        best(x, 0, 1, 4, 3, 5);
        Check.lie(x, 0, 4);
        Check.of("or so many can't be laid");
        layAll(x, 1, 6);
        Check.due("best of 4 where 3 can be", x.best(0, 1, 4, 0), NONE);
        Check.lie(x);
        Check.due("best of 3", x.best(0, 1, 3, 1) > 0, true);
        Check.lie(x, 0, 3);
        layAll(x, 1, 3);
        Check.due("best of 1 where none can be", x.best(0, 1, 1, 0), NONE);
        Check.lie(x);
        // 10 of 22: 28 DRAWS
        best(x, 0, 1, 0, 7, 15);
        Check.lie(x, 0, 0);
    }

    private static void theMostFirst() {
        Check.of("of like ones the first (by PLACES, the most first)");
        DogDecrees x = Check.village(EIGHT + "case c bar 1;day 24;");
        best(x, 0, 6, 0, 0, 1);
        Check.lie(x, 0, 0, 0, 0, 0, 0, 0, 0);
        best(x, 0, 6, 4, 0, 1);
        Check.lie(x, 4, 0, 0, 0, 0, 0, 0, 0);
        layAll(x, 0, 7);
        best(x, 0, 1, 4, 0, 1);
        Check.lie(x, 2, 2, 0, 0, 0, 0, 0, 0);
        layAll(x, 0, 2);
        layAll(x, 1, 8);
        best(x, 0, 1, 4, 0, 1);
        Check.lie(x, 0, 1, 3, 0, 0, 0, 0, 0);
        x = Check.village(EIGHT + "case c bar 1;day 24;");
        for (int p = 0; p < 7; p++) {
            layAll(x, p, 9);
        }
        best(x, 0, 1, 4, 0, 1);
        Check.lie(x, 0, 0, 0, 0, 0, 0, 0, 4);
        // one bone at each of p and q is as good as two and one, or one and two
        x = Check.village("deed a;deed b;place p smell 1 does a;place q smell 1 does a;place r smell 1 does b;"
                + "path r to p;path r to q;start r;pull 1+(bones>0);case c bar 1;when a c 1;");
        best(x, 0, 1, 2, 4, 5);
        Check.lie(x, 1, 1, 0);
        best(x, 0, 1, 3, 4, 5);
        Check.lie(x, 2, 1, 0);
    }

    private static String nearQ(int smell) {
        return "deed a;deed b;place p smell 1 does a;place q smell " + smell + " does b;path p to q;pull smell+bones;day 24;"
                + "case c bar 1;when a c 1;";
    }

    private static void leastEdges() {
        Check.of("the fewest (4 at most) by which PASS is more than a half; as LAY lays these");
        for (int smell = 0; smell <= 9; smell++) {
            // 1 + k of 1 + k + smell are more than a half for k of smell at least
            DogDecrees x = Check.village(nearQ(smell));
            Check.due("least(0, 1) by " + smell, x.least(0, 1), smell <= 4 ? smell : NONE);
            if (smell <= 4) {
                Check.lie(x, smell, 0);
            } else {
                Check.lie(x);
            }
        }
        DogDecrees x = Check.village(HALF + "case c bar 1;when a c 1;");
        Check.due("least(0, 1): a half is not more", x.least(0, 1), NONE);
        Check.due("least(0, 2)", x.least(0, 2), 0);
        Check.lie(x, 0, 0);
        Check.of("LEAST (n 1 .. 6): how many; NONE if 4 are not enough, or one can't be");
        x = Check.village(ONE + "case c bar 6;case d bar 1;when a c 1;hears 6;");
        Check.due("least(0, 6)", x.least(0, 6), 0);
        Check.lie(x, 0);
        Check.due("least(0, 5)", x.least(0, 5), NONE);
        Check.lie(x);
        for (int n : Check.outside(1, 6)) {
            x.least(0, 6);
            Check.due("least(0, " + n + ")", x.least(0, n), NONE);
            Check.lie(x);
        }
        for (int c : Check.outside(0, 1)) {
            x.least(0, 6);
            Check.due("least(" + c + ", 6)", x.least(c, 6), NONE);
            Check.lie(x);
        }
        x = walked(ONE + "case c bar 1;case d bar 1;when a c 1;when a d -1;", 2);
        Check.due("least of what is PASSED", x.least(0, 1), 0);
        Check.lie(x, 0);
        Check.due("least of what is PASSED, in no HOURS", x.least(0, 0), NONE);
        Check.lie(x);
        Check.due("best of what is PASSED, in no HOURS", x.best(0, 0, 1, 0), NONE);
        Check.due("byTurns of what is PASSED, in no HOURS", x.byTurns(0, 0, 0), NONE);
        Check.due("least of what is FALLEN", x.least(1, 6), NONE);
        Check.lie(x);
        leastOfFull();
    }

    private static void leastOfFull() {
        Check.of("NONE if 4 are not enough, or one can't be");
        DogDecrees x = Check.village(nearQ(4));
        layAll(x, 0, 9);
        layAll(x, 1, 6);
        // 10 of 20; a bone at q makes it less, and p has 9
        Check.due("least where p is full", x.least(0, 1), NONE);
        Check.lie(x);
        layAll(x, 1, 3);
        Check.due("least where none can be laid", x.least(0, 1), NONE);
        x.take(1);
        x.take(1);
        x.take(1);
        x.take(1);
        Check.due("least where it is so already", x.least(0, 1), 0);
        Check.lie(x, 0, 0);
    }

    private static void layAtTheDaysEnd() {
        Check.of("behind the last one of the DAY all bones are gone");
        DogDecrees x = Check.village(QUARTER + "day 2;case c bar 2;when b c 1;");
        best(x, 0, 2, 1, 16, 25);
        Check.lie(x, 0, 1);
        Check.due("hour() by DRAW 11", x.hour(), 0);
        // a bone counts in one HOUR more alone: 4 of 5, then 3 of 4
        best(x, 0, 2, 1, 3, 5);
        Check.lie(x, 0, 1);
        best(x, 0, 3, 1, 69, 80);
        best(x, 0, 2, 4, 13, 20);
        Check.lie(x, 0, 4);
        x = Check.village(QUARTER + "day 1;case c bar 2;when b c 1;");
        best(x, 0, 2, 1, 3, 5);
        // c is HEARD in HOURS 2 and 3 alone, when all bones are gone
        x = Check.village(QUARTER + "day 2;case b bar 1;case c bar 1;when a c 1;hears 2;");
        best(x, 1, 4, 3, 7, 16);
        Check.lie(x, 3, 0);
        Check.due("least: bones are of no use", x.least(1, 4), NONE);
        Check.due("byTurns: like ones", x.byTurns(1, 4, 0) + x.byTurns(1, 4, 1), 0);
    }

    private static void turnsEdges() {
        Check.of("where the first one lays his so that PASS is greatest, if the other one lays so that it is least; of like ones "
                + "the first");
        String text = QUARTER + "case c bar 1;case d bar 1;when a c 1;when b d 1;day 24;";
        DogDecrees x = Check.village(text);
        turns(x, 0, 1, 0, 1);
        turns(x, 1, 2, 1, 0);
        turns(x, 1, 1, 0, 0);
        // p has 8 bones: if the first one fills it up, the other one can but lay at q, which is as good for d as q first
        layAll(x, 0, 8);
        turns(x, 1, 2, 0, 1);
        Check.of("TURNS (n 1 .. 6) what 0: where the first one lays, 1: where the other one does");
        x = Check.village(EIGHT + "case c bar 6;when a c 1;");
        turns(x, 0, 6, 0, 0);
        Check.of("NONE if one can't be, or nowhere two can be laid one behind the other");
        for (int what = 0; what < 2; what++) {
            for (int c : Check.outside(0, 0)) {
                Check.due("byTurns(" + c + ", 1, " + what + ")", x.byTurns(c, 1, what), NONE);
            }
            for (int n : Check.outside(1, 6)) {
                Check.due("byTurns(0, " + n + ", " + what + ")", x.byTurns(0, n, what), NONE);
            }
        }
        for (int what : Check.outside(0, 1)) {
            Check.due("byTurns(0, 1, " + what + ")", x.byTurns(0, 1, what), NONE);
        }
        x = Check.village(text);
        layAll(x, 0, 9);
        layAll(x, 1, 9);
        turns(x, 0, 1, NONE, NONE);
        x.take(1);
        turns(x, 0, 1, NONE, NONE);
        x.take(1);
        turns(x, 0, 1, 1, 1);
        x.lay(1);
        x.take(0);
        turns(x, 1, 2, 0, 1);
        x.lay(1);
        turns(x, 1, 2, NONE, NONE);
        x.take(0);
        turns(x, 1, 2, 0, 0);
        x = Check.village(ONE + "case c bar 1;day 24;");
        layAll(x, 0, 7);
        turns(x, 0, 1, 0, 0);
        x.lay(0);
        turns(x, 0, 1, NONE, NONE);
    }

    private static void turns(DogDecrees x, int which, int n, int first, int other) {
        Check.due("byTurns(" + which + ", " + n + ", 0)", x.byTurns(which, n, 0), first);
        Check.due("byTurns(" + which + ", " + n + ", 1)", x.byTurns(which, n, 1), other);
    }

    // ---- from where, and where it haunts

    private static void councilEdges() {
        Check.of("PLACES from which, if the dog were there, PASS would be more than a half");
        DogDecrees x = Check.village(HALF + "case c bar 1;when a c 1;");
        Check.due("council(0, 0)", x.council(0, 0), 0);
        Check.due("council(0, 1): a half is not more", x.council(0, 1), 0);
        Check.due("council(0, 2)", x.council(0, 2), 3);
        Check.of("COUNCIL (n 0 .. 8), as bits; NONE if one can't be");
        // all but a lead to h alone; b is done there
        x = Check.village("deed a;deed b;place a smell 1 does a;place b smell 1 does a;place c smell 1 does a;place d smell 1 does a;"
                + "place e smell 1 does a;place f smell 1 does a;place g smell 1 does a;place h smell 9 does b;path b to h;"
                + "path c to h;path d to h;path e to h;path f to h;path g to h;pull smell=9;case c bar 8;case d bar 1;"
                + "when b c 1;when b d 1;hears 8;");
        Check.due("council(0, 7)", x.council(0, 7), 0);
        Check.due("council(0, 8)", x.council(0, 8), 254);
        for (int n : Check.outside(0, 8)) {
            Check.due("council(0, " + n + ")", x.council(0, n), NONE);
        }
        for (int c : Check.outside(0, 1)) {
            Check.due("council(" + c + ", 1)", x.council(c, 1), NONE);
        }
        x = walked(EIGHT + "case c bar 1;case d bar 1;when a c 1;when a d -1;", 2);
        Check.due("council of what is PASSED", x.council(0, 0), 255);
        Check.due("council of what is PASSED, 8", x.council(0, 8), 255);
        Check.due("council of what is FALLEN", x.council(1, 8), 0);
    }

    private static void hauntEdges() {
        Check.of("those behind 1, 2 .. 8 HOURS added, each by 60 to the 8); of like ones the first");
        // it goes to and fro: four times at each PLACE, whichever it starts from
        Check.due("to and fro from p", Check.village(PAIR + "pull 1-here;").haunt(), 0);
        Check.due("to and fro from q", Check.village(PAIR + "pull 1-here;start q;").haunt(), 0);
        Check.due("of like ones", Check.village(HALF + "start q;").haunt(), 0);
        Check.due("of g and h", Check.village(EIGHT + "path g to h;start h;").haunt(), 6);
        Check.due("by itself", Check.village(EIGHT + "path a to b;start h;").haunt(), 7);
        // it is at p for so many HOURS, then at q for good: a sum of ways that are not by 60 to the 8 would have q
        for (int hours = 1; hours <= 8; hours++) {
            DogDecrees x = Check.village(PAIR + "pull hour<" + hours + " and here or smell=3 and hour>" + (hours - 1) + ";");
            Check.due("at p behind " + hours + " HOURS", x.haunt(), hours >= 4 ? 0 : 1);
        }
        DogDecrees x = Check.village(EIGHT + "start h;");
        for (int time = 1; time <= 3; time++) {
            Check.due("h, a " + time + ". time", x.haunt(), 7);
        }
        Check.tell(x, EIGHT + "start c;");
        Check.due("c of another VILLAGE", x.haunt(), 2);
        Check.of("HAUNT; NONE without PLACES");
        Check.due("haunt()", Check.village("deed a;case c bar 1;").haunt(), NONE);
    }

    // ---- who fed it

    /** A VILLAGE in which the dog came to these PLACES first: the draw is looked for. */
    private static DogDecrees walkedTo(String text, int... places) {
        for (int draw = 0; draw < 1000; draw++) {
            DogDecrees x = Check.village(text + "draw " + draw + ";");
            int i = 0;
            while (i < places.length && x.hour() == places[i]) {
                i++;
            }
            if (i == places.length) {
                return x;
            }
        }
        Check.due("a draw for a WALK", 0, 1);
        return new DogDecrees();
    }

    private static void fedEdges() {
        Check.of("FED; NONE if the WALK is shorter, or one can't be");
        DogDecrees x = Check.village(ONE);
        for (int hours = 0; hours <= 10; hours++) {
            for (int n = 1; n <= 8; n++) {
                Check.due("fed(" + n + ") behind " + hours, x.fed(n), n <= hours ? 0 : NONE);
            }
            for (int n : Check.outside(1, 8)) {
                Check.due("fed(" + n + ") behind " + hours, x.fed(n), NONE);
            }
            x.hour();
        }
        x.undo();
        Check.due("fed(8) behind UNDO", x.fed(8), 0);
        Check.of("would have made the latest n of the WALK likeliest");
        // a bone makes 1 of 2 to 2 of 3, and the other one to 1 of 3
        x = walkedTo(PAIR + "pull 1+bones;", 1, 1, 0);
        Check.due("fed(1) of p", x.fed(1), 0);
        Check.due("fed(2) of q, p: like ones", x.fed(2), 0);
        Check.due("fed(3) of q, q, p", x.fed(3), 1);
        for (int draw = 0; draw < 20; draw++) {
            x = walked(PAIR + "pull 1+bones;draw " + draw + ";", 8);
            int atQ = 0;
            for (int n = 1; n <= 8; n++) {
                atQ += x.walk(n - 1);
                Check.due("fed(" + n + ") of " + atQ + " at q", x.fed(n), 2 * atQ > n ? 1 : 0);
            }
        }
        Check.of("of like ones the first");
        x = walkedTo(PAIR + "pull 1;", 1, 1);
        Check.due("fed(2) where bones are of no use", x.fed(2), 0);
        // in HOUR 0 it goes to the other PLACE, now it would stay: no bone makes that likelier than 0
        x = walkedTo(PAIR + "pull (hour=0)=(1-here);", 1);
        Check.due("fed(1) of what can't be", x.fed(1), 0);
    }

    private static void fedAsItIsNow() {
        Check.of("all else as it is now (bones, HOUR, age, too, in each of these HOURS");
        DogDecrees x = walkedTo(PAIR + "pull 1+bones*(hour=1);", 1);
        Check.due("fed(1) by HOUR 1", x.fed(1), 1);
        x = walkedTo(PAIR + "pull 1+bones*(hour=0);", 1);
        Check.due("fed(1) by HOUR 1, when bones are of no use", x.fed(1), 0);
        x = walkedTo(PAIR + "day 1;age 5;pull 1+bones*(age=6);", 1);
        Check.due("fed(1) by age 6", x.fed(1), 1);
        x = walkedTo(PAIR + "pull 1+(bones=2);", 1);
        Check.due("fed(1) without bones", x.fed(1), 0);
        x.lay(1);
        Check.due("fed(1) with a bone more than now", x.fed(1), 1);
        x.lay(1);
        Check.due("fed(1) with one too many at q", x.fed(1), 0);
    }

    private static void fedFromTheStart() {
        Check.of("ahead of the WALK's first PLACE there was the start");
        // a bone makes a PLACE less (9 to 1): the one that it left instead was fed
        String row = "deed a;place p smell 1 does a;place q smell 1 does a;place r smell 1 does a;path p to q;path p to r;"
                + "start r;pull 9-8*bones;";
        DogDecrees x = walkedTo(row, 0, 0);
        Check.due("fed(1): p to p, by q or r", x.fed(1), 1);
        Check.due("fed(2): r to p, p to p", x.fed(2), 2);
        x = walkedTo(row, 0, 1);
        Check.due("fed(2): r to p, p to q", x.fed(2), 2);
        x = walkedTo(row, 0);
        Check.due("fed(1): r to p", x.fed(1), 2);
        x.image(0);
        x.hour();
        x.back(0);
        Check.due("fed(1) behind an image", x.fed(1), 2);
    }

    private static void liesEdges() {
        Check.of("How many are laid at each PLACE lies there then (behind NONE: nothing)");
        DogDecrees y = Check.village(nearQ(2));
        y.best(0, 1, 3, 1);
        Check.lie(y, 3, 0);
        y.least(0, 1);
        Check.lie(y, 2, 0);
        y.best(0, 7, 3, 1);
        Check.lie(y);
        y.best(0, 6, 0, 0);
        Check.lie(y, 0, 0);
        y.least(1, 1);
        Check.lie(y);
        Check.of("The i-th number of what lies there; GAP if there is none such");
        DogDecrees x = Check.village(EIGHT + "case c bar 1;");
        Check.due("lies(0) ahead of all", x.lies(0), GAP);
        x.best(0, 1, 3, 0);
        Check.due("lies(0)", x.lies(0), 3);
        Check.due("lies(7)", x.lies(7), 0);
        for (int i : Check.outside(0, 7)) {
            Check.due("lies(" + i + ")", x.lies(i), GAP);
        }
        x.byTurns(0, 1, 0);
        x.hour();
        x.lay(1);
        x.council(0, 1);
        Check.due("lies(0) till it is laid anew", x.lies(0), 3);
        x.best(0, 1, 5, 0);
        Check.due("lies(0) behind NONE", x.lies(0), GAP);
        x.best(0, 1, 1, 1);
        Check.due("lies(0) again", x.lies(0), 1);
        x.least(0, 0);
        Check.due("lies(0) behind NONE of least", x.lies(0), GAP);
        x = Check.village(ONE + "case c bar 1;");
        x.best(0, 1, 4, 0);
        Check.due("lies(0) of one", x.lies(0), 4);
        Check.due("lies(1) of one", x.lies(1), GAP);
    }

    private static void withoutPlaces() {
        Check.of("NONE without PLACES");
        DogDecrees x = Check.village("deed a;case c bar 1;when a c 1;");
        Check.due("likely(0)", x.likely(0), NONE);
        Check.due("haunt()", x.haunt(), NONE);
        Check.due("where(0, 0, 0)", x.where(0, 0, 0), NONE);
        Check.due("soon(0): 8 are not enough", x.soon(0), NONE);
        Check.due("best of 1: so many can't be laid", x.best(0, 1, 1, 0), NONE);
        Check.due("byTurns(0, 1, 0)", x.byTurns(0, 1, 0), NONE);
        Check.due("fed(1)", x.fed(1), NONE);
    }
}
