import java.util.List;
import java.util.Random;

/** Runs of calls by a seeded random, each answer compared with the Oracle's. */
public final class OracleTest {
    private static Random random;
    private static DogDecrees x;
    private static Oracle o;
    private static int run;
    private static String text;

    public static void main(String[] args) {
        int runs = args.length > 0 ? Integer.parseInt(args[0]) : 250;
        int first = args.length > 1 ? Integer.parseInt(args[1]) : 1;
        for (run = first; run < first + runs && !Check.anyWrong(); run++) {
            random = new Random(run);
            faults(20);
            goThrough();
        }
        if (Check.anyWrong()) {
            System.out.println("in run " + (run - 1) + ": " + text);
        }
        Check.end("OracleTest");
    }

    private static void faults(int texts) {
        Writer writer = new Writer(random);
        DogDecrees y = new DogDecrees();
        Oracle p = new Oracle();
        for (int i = 0; i < texts; i++) {
            List<String> tokens = writer.tokens(8);
            for (int spoilt = random.nextInt(4); spoilt > 0; spoilt--) {
                writer.spoil(tokens);
            }
            text = writer.text(tokens);
            Check.due("village() of " + text, Check.tell(y, text), p.village(text));
            Check.due("fault(0) of " + text, y.fault(0), p.fault);
            Check.due("fault(1) of " + text, y.fault(1), p.faultPlace);
            Check.due("about(15) of " + text, y.about(15), p.told.units);
        }
    }

    private static void goThrough() {
        Writer writer = new Writer(random);
        text = writer.text(writer.tokens(random.nextInt(3) == 0 ? 8 : 4));
        x = new DogDecrees();
        o = new Oracle();
        due("village()", Check.tell(x, text), o.village(text));
        for (int call = 0; call < 120; call++) {
            act();
            if (call % 6 == 0) {
                lookAtAll();
            }
            if (call % 10 == 0) {
                forecasts();
            }
        }
    }

    private static int any(int least, int most) {
        return least + random.nextInt(most - least + 1);
    }

    private static void due(String call, long got, long want) {
        Check.due("run " + run + ": " + call, got, want);
    }

    private static void due(String call, boolean got, boolean want) {
        Check.due("run " + run + ": " + call, got, want);
    }

    private static void act() {
        int place = any(-1, o.told.places.size());
        int box = any(-1, 3);
        switch (any(0, 15)) {
            case 0: case 1: case 2: case 3: due("hour()", x.hour(), o.hour()); break;
            case 4: case 5: case 6: due("lay(" + place + ")", x.lay(place), o.lay(place, 1)); break;
            case 7: due("take(" + place + ")", x.take(place), o.lay(place, -1)); break;
            case 8: due("undo()", x.undo(), o.undo()); break;
            case 9: due("redo()", x.redo(), o.redo()); break;
            case 10: due("image(" + box + ")", x.image(box), o.image(box)); break;
            case 11:
                if (random.nextInt(4) == 0) {
                    due("back(" + box + ")", x.back(box), o.back(box));
                }
                break;
            case 12: {
                int by = any(-1, 3);
                due("later(" + by + ")", x.later(by), o.later(by));
                break;
            }
            case 13: {
                int count = any(-1, o.counts.size());
                due("untell(" + count + ")", x.untell(count), o.untell(count));
                break;
            }
            default: tellCount(); break;
        }
    }

    private static void tellCount() {
        int which = any(-1, o.told.cases.size());
        int deed = any(-1, o.told.deeds.size());
        int other = any(0, o.told.deeds.size());
        int times = any(random.nextInt(8) == 0 ? -1 : 0, random.nextInt(8) == 0 ? 10 : 3);
        int otherTimes = any(random.nextInt(8) == 0 ? -1 : 0, random.nextInt(8) == 0 ? 10 : 3);
        int v = random.nextInt(9) == 0 ? any(-101, 101) : 0;
        if (o.isDeed(deed) && o.isDeed(other) && v == 0 && random.nextInt(3) != 0) {
            // as if each DEED counted its number less 1, so that some tables agree
            v = times * (deed - 1) + otherTimes * (other - 1);
        }
        due("count(..)", x.count(which, deed, times, other, otherTimes, v),
                o.count(which, deed, times, other, otherTimes, v));
    }

    private static void lookAtAll() {
        for (int what = -1; what <= 18; what++) {
            due("about(" + what + ")", x.about(what), o.about(what));
        }
        for (int p = 0; p < o.told.places.size(); p++) {
            int bits = 0;
            for (int q = 0; q < o.told.places.size(); q++) {
                bits |= o.told.path(p, q) ? 1 << q : 0;
            }
            due("place(" + p + ", 0)", x.place(p, 0), o.told.smells.get(p));
            due("place(" + p + ", 1)", x.place(p, 1), o.now.bones[p]);
            due("place(" + p + ", 2)", x.place(p, 2), o.told.does.get(p));
            due("place(" + p + ", 3)", x.place(p, 3), bits);
            due("place(" + p + ", 4)", x.place(p, 4), o.pull(o.now, p));
            due("draws(" + p + ")", x.draws(p), o.drawsTo(o.now)[p]);
        }
        for (int c = 0; c < o.told.cases.size(); c++) {
            due("hearing(" + c + ", 0)", x.hearing(c, 0), o.now.scores[c]);
            due("hearing(" + c + ", 1)", x.hearing(c, 1), o.told.bars.get(c));
            due("hearing(" + c + ", 2)", x.hearing(c, 2), o.now.standing[c]);
            due("hearing(" + c + ", 3)", x.hearing(c, 3), o.heard(o.now) == c ? 1 : 0);
            for (int d = 0; d < o.told.deeds.size(); d++) {
                due("table(" + d + ", " + c + ")", x.table(d, c), o.told.table(d, c));
            }
            tables(c, any(-1, o.time + 1));
        }
        for (int i = -1; i < 62; i++) {
            due("walk(" + i + ")", x.walk(i), o.walk(i));
        }
        for (int n = 0; n <= 9; n++) {
            due("fed(" + n + ")", x.fed(n), o.fed(n));
        }
    }

    private static void tables(int c, int k) {
        due("meant(" + c + ", " + k + ")", x.meant(c, k), o.tables(c, k).size());
        for (int d = 0; d < o.told.deeds.size(); d++) {
            due("sure(" + c + ", " + d + ", " + k + ")", x.sure(c, d, k), o.sure(c, d, k));
        }
        due("ask(" + c + ", 0, " + k + ")", x.ask(c, 0, k), o.ask(c, 0, k));
        due("ask(" + c + ", 1, " + k + ")", x.ask(c, 1, k), o.ask(c, 1, k));
    }

    /** How far ahead the Oracle can go all ways in good time. */
    private static int reach(int most, int ways) {
        int branches = 1;
        for (int p = 0; p < o.told.places.size(); p++) {
            int here = 1;
            for (int q = 0; q < o.told.places.size(); q++) {
                here += o.told.path(p, q) ? 1 : 0;
            }
            branches = Math.max(branches, here);
        }
        int n = 0;
        for (long all = branches; n < most && all <= ways; all *= branches) {
            n++;
        }
        return n;
    }

    private static void forecasts() {
        int far = reach(8, 900);
        int n = any(0, far);
        for (int p = 0; p < o.told.places.size(); p++) {
            due("where(" + p + ", " + n + ", 0)", x.where(p, n, 0), o.where(p, n, 0));
            due("where(" + p + ", " + n + ", 1)", x.where(p, n, 1), o.where(p, n, 1));
        }
        due("likely(" + n + ")", x.likely(n), o.likely(n));
        if (far == 8) {
            due("haunt()", x.haunt(), o.haunt());
        }
        for (int c = 0; c < o.told.cases.size(); c++) {
            due("pass(" + c + ", " + n + ", 0)", x.pass(c, n, 0), o.pass(c, n, 0));
            due("pass(" + c + ", " + n + ", 1)", x.pass(c, n, 1), o.pass(c, n, 1));
            due("council(" + c + ", " + n + ")", x.council(c, n), o.council(c, n));
            if (far == 8) {
                due("soon(" + c + ")", x.soon(c), o.soon(c));
            }
        }
        layings();
    }

    private static void layings() {
        if (o.told.cases.isEmpty()) {
            return;
        }
        int c = any(0, o.told.cases.size() - 1);
        int far = reach(6, o.told.places.size() > 4 ? 20 : 200);
        int n = any(1, Math.max(1, far));
        int k = any(0, o.told.places.size() > 4 ? 2 : 4);
        due("best(" + c + ", " + n + ", " + k + ", 0)", x.best(c, n, k, 0), o.best(c, n, k, 0));
        lying();
        due("best(" + c + ", " + n + ", " + k + ", 1)", x.best(c, n, k, 1), o.best(c, n, k, 1));
        due("byTurns(" + c + ", " + n + ", 0)", x.byTurns(c, n, 0), o.byTurns(c, n, 0));
        due("byTurns(" + c + ", " + n + ", 1)", x.byTurns(c, n, 1), o.byTurns(c, n, 1));
        if (o.told.places.size() <= 4) {
            due("least(" + c + ", " + n + ")", x.least(c, n), o.least(c, n));
            lying();
        }
    }

    private static void lying() {
        due("about(16)", x.about(16), o.lying.size());
        for (int i = 0; i < 9; i++) {
            due("lies(" + i + ")", x.lies(i), i < o.lying.size() ? o.lying.get(i) : -1000000);
        }
    }
}
