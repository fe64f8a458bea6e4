import java.util.List;
import java.util.Random;

/** Long mixed runs of calls, each answer compared with the one of PlainModel. The seeds are fixed. */
public final class ModelTest {
    private static final int RUNS = 3000;
    private static final int CALLS = 512;

    public static void main(String[] args) {
        int flushed = 0;
        int failed = 0;
        for (int run = 0; run < RUNS && Check.clean(); run++) {
            Run one = new Run(run);
            while (one.goesOn()) {
                one.step();
            }
            flushed += one.flushed;
            failed += one.failed;
        }
        System.out.println(flushed + " flushes with writes, " + failed + " that fail");
        if (Check.clean()) {
            Check.same("enough flushes of both sorts", flushed > RUNS && failed > RUNS, true);
        }
        Check.end();
    }

    private static final class Run {
        private final Random random;
        private final int span;
        private final int sessions;
        private final int makers;
        private final Pair pair;
        private final PlainModel model;
        int flushed;
        int failed;

        Run(int seed) {
            random = new Random(seed);
            span = 2 + random.nextInt(6);
            sessions = random.nextInt(8) == 0 ? 1 : 2 + random.nextInt(2);
            makers = 1 + random.nextInt(6);
            pair = new Pair("run " + seed);
            model = pair.y;
        }

        boolean goesOn() {
            return pair.fits() && pair.done() < CALLS;
        }

        void step() {
            int s = random.nextInt(60) == 0 ? random.nextInt(6) - 1 : random.nextInt(sessions);
            int kind = random.nextInt(60) == 0 ? random.nextInt(4) - 1 : random.nextInt(2);
            int key = keyOf(s, kind);
            int other = keyOf(s, 1 - kind);
            int author = keyOf(s, 0);
            int any = lateKey(kind);
            int name = random.nextInt(60) == 0 ? random.nextInt(1200) - 100 : random.nextInt(3);
            int number = random.nextInt(model.writes() + 3) - 1;
            switch (random.nextInt(28)) {
                case 0 -> sometimes(makers, Call.MAKE_AUTHOR, s, name);
                case 1, 2 -> sometimes(makers, Call.MAKE_BOOK, s, name, author);
                case 3, 4, 5 -> does(Call.FIND, s, kind, any);
                case 6 -> does(Call.BOOKS, s, author);
                case 7, 8 -> does(Call.SET_NAME, s, kind, key, name);
                case 9, 10, 11, 12 -> does(Call.SET_REFERENCE, s, kind, key, other);
                case 13 -> does(Call.REMOVE, s, kind, key);
                case 14 -> does(Call.NAME, s, kind, key);
                case 15 -> does(Call.REFERENCE, s, kind, key);
                case 16 -> does(Call.KNOWN, s);
                case 17 -> does(Call.DIRTY, s);
                case 18, 19, 20 -> flush(s);
                case 21 -> sometimes(4, Call.CLEAR, s);
                case 22 -> does(Call.ROWS, kind);
                case 23 -> does(Call.ROW_NAME, kind, any);
                case 24 -> does(Call.ROW_REFERENCE, kind, any);
                case 25 -> does(Call.ROW_VERSION, kind, any);
                case 26 -> does(Call.WRITES);
                default -> written(number);
            }
        }

        // Mostly a live object of the session, so that the call has something to do.
        private int keyOf(int session, int kind) {
            if (session >= 0 && session < 3 && (kind == 0 || kind == 1) && random.nextInt(6) != 0) {
                List<Integer> keys = model.liveKeys(session, kind);
                if (!keys.isEmpty()) {
                    return keys.get(random.nextInt(keys.size()));
                }
            }
            return lateKey(kind);
        }

        private int lateKey(int kind) {
            int keys = kind == 0 || kind == 1 ? model.keys(kind) : 1;
            return Math.max(-1, keys - random.nextInt(span + 1));
        }

        private void flush(int s) {
            int before = model.writes();
            int answer = does(Call.FLUSH, s);
            flushed += answer > 0 ? 1 : 0;
            failed += answer == Call.NO_STATE ? 1 : 0;
            for (int number = before; number < model.writes(); number++) {
                written(number);
            }
            if (answer < 0) {
                sometimes(3, Call.CLEAR, s);
            }
        }

        private void written(int number) {
            does(Call.WRITE, number);
            does(Call.WRITTEN, number);
        }

        // Few keys let the sessions meet, many let the tables grow: how often one is made differs from run to run.
        private void sometimes(int oneIn, Call call, int... arguments) {
            if (random.nextInt(oneIn) == 0) {
                does(call, arguments);
            }
        }

        private int does(Call call, int... arguments) {
            return goesOn() ? pair.does(call, arguments) : 0;
        }
    }
}
