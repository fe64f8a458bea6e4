import java.util.List;
import java.util.Random;
import java.util.function.IntSupplier;

/** Long mixed runs of calls, each answer compared with the one of PlainModel. The seeds are fixed. */
public final class ModelTest {
    private static final int RUNS = 3000;
    private static final int CALLS = 512;

    public static void main(String[] args) {
        int flushed = 0;
        int failed = 0;
        for (int run = 0; run < RUNS; run++) {
            Run one = new Run(run);
            while (one.goesOn()) {
                one.step();
            }
            flushed += one.flushed;
            failed += one.failed;
        }
        System.out.println(flushed + " flushes with writes, " + failed + " that fail");
        Check.same("enough flushes of both sorts", flushed > RUNS && failed > RUNS, true);
        Check.end();
    }

    private static final class Run {
        private final int seed;
        private final Random random;
        private final int span;
        private final int sessions;
        private final int makers;
        private final StringBuilder calls = new StringBuilder();
        private final ObjectMapper x = new ObjectMapper();
        private final PlainModel y = new PlainModel();
        private boolean fits = true;
        private int done;
        int flushed;
        int failed;

        Run(int seed) {
            this.seed = seed;
            random = new Random(seed);
            span = 2 + random.nextInt(6);
            sessions = random.nextInt(8) == 0 ? 1 : 2 + random.nextInt(2);
            makers = 1 + random.nextInt(6);
        }

        boolean goesOn() {
            return fits && done < CALLS;
        }

        void step() {
            int s = random.nextInt(60) == 0 ? random.nextInt(6) - 1 : random.nextInt(sessions);
            int kind = random.nextInt(60) == 0 ? random.nextInt(4) - 1 : random.nextInt(2);
            int key = keyOf(s, kind);
            int other = keyOf(s, 1 - kind);
            int author = keyOf(s, 0);
            int any = lateKey(kind);
            int name = random.nextInt(60) == 0 ? random.nextInt(1200) - 100 : random.nextInt(3);
            int number = random.nextInt(y.writes() + 3) - 1;
            switch (random.nextInt(28)) {
                case 0 -> makeAuthorSometimes(s, name);
                case 1, 2 -> makeBookSometimes(s, name, author);
                case 3, 4, 5 -> same("find", () -> x.find(s, kind, any) ? 1 : 0, () -> y.find(s, kind, any), s, kind, any);
                case 6 -> same("books", () -> x.books(s, author), () -> y.books(s, author), s, author);
                case 7, 8 -> same("setName", () -> setName(s, kind, key, name), () -> y.setName(s, kind, key, name),
                        s, kind, key, name);
                case 9, 10, 11, 12 -> same("setReference", () -> setReference(s, kind, key, other),
                        () -> y.setReference(s, kind, key, other), s, kind, key, other);
                case 13 -> same("remove", () -> x.remove(s, kind, key), () -> y.remove(s, kind, key), s, kind, key);
                case 14 -> same("name", () -> x.name(s, kind, key), () -> y.name(s, kind, key), s, kind, key);
                case 15 -> same("reference", () -> x.reference(s, kind, key), () -> y.reference(s, kind, key), s, kind, key);
                case 16 -> same("known", () -> x.known(s), () -> y.known(s), s);
                case 17 -> same("dirty", () -> x.dirty(s), () -> y.dirty(s), s);
                case 18, 19, 20 -> flush(s);
                case 21 -> clearSometimes(s);
                case 22 -> same("rows", () -> x.rows(kind), () -> y.rows(kind), kind);
                case 23 -> same("rowName", () -> x.rowName(kind, any), () -> y.rowName(kind, any), kind, any);
                case 24 -> same("rowReference", () -> x.rowReference(kind, any), () -> y.rowReference(kind, any), kind, any);
                case 25 -> same("rowVersion", () -> x.rowVersion(kind, any), () -> y.rowVersion(kind, any), kind, any);
                case 26 -> same("writes", x::writes, y::writes);
                default -> {
                    same("write", () -> x.write(number), () -> y.write(number), number);
                    same("written", () -> x.written(number), () -> y.written(number), number);
                }
            }
        }

        // Mostly a live object of the session, so that the call has something to do.
        private int keyOf(int session, int kind) {
            if (session >= 0 && session < 3 && (kind == 0 || kind == 1) && random.nextInt(6) != 0) {
                List<Integer> keys = y.liveKeys(session, kind);
                if (!keys.isEmpty()) {
                    return keys.get(random.nextInt(keys.size()));
                }
            }
            return lateKey(kind);
        }

        private int lateKey(int kind) {
            int keys = kind == 0 || kind == 1 ? y.keys(kind) : 1;
            return Math.max(-1, keys - random.nextInt(span + 1));
        }

        private int setName(int s, int kind, int key, int name) {
            x.setName(s, kind, key, name);
            return 0;
        }

        private int setReference(int s, int kind, int key, int reference) {
            x.setReference(s, kind, key, reference);
            return 0;
        }

        private void flush(int s) {
            int before = y.writes();
            long answer = same("flush", () -> x.flush(s), () -> y.flush(s), s);
            flushed += answer > 0 ? 1 : 0;
            failed += s >= 0 && s < 3 && answer < 0 ? 1 : 0;
            for (int number = before; number < y.writes() && goesOn(); number++) {
                int asked = number;
                same("write", () -> x.write(asked), () -> y.write(asked), number);
                same("written", () -> x.written(asked), () -> y.written(asked), number);
            }
            if (answer < 0 && random.nextInt(3) == 0) {
                same("clear", () -> x.clear(s), () -> y.clear(s), s);
            }
        }

        // Few keys let the sessions meet, many let the tables grow: how often one is made differs from run to run.
        private void makeAuthorSometimes(int s, int name) {
            if (random.nextInt(makers) == 0) {
                same("makeAuthor", () -> x.makeAuthor(s, name), () -> y.makeAuthor(s, name), s, name);
            }
        }

        private void makeBookSometimes(int s, int name, int author) {
            if (random.nextInt(makers) == 0) {
                same("makeBook", () -> x.makeBook(s, name, author), () -> y.makeBook(s, name, author), s, name, author);
            }
        }

        private void clearSometimes(int s) {
            if (random.nextInt(4) == 0) {
                same("clear", () -> x.clear(s), () -> y.clear(s), s);
            }
        }

        private long same(String call, IntSupplier got, IntSupplier due, int... arguments) {
            if (!goesOn()) {
                return 0;
            }
            done++;
            StringBuilder text = new StringBuilder(call).append(java.util.Arrays.toString(arguments));
            long answer = answerOf(got);
            long wanted = answerOf(due);
            calls.append("\n  ").append(text).append(" -> ").append(answer);
            if (answer != wanted && fits) {
                fits = false;
                Check.same("run " + seed + ": " + calls + "\n  the last call", answer, wanted);
            }
            return wanted;
        }

        // Exceptions count far below every answer.
        private static long answerOf(IntSupplier call) {
            try {
                return call.getAsInt();
            } catch (RuntimeException e) {
                Class<?> type = e.getClass();
                return type == IndexOutOfBoundsException.class ? -10_000_000_001L
                        : type == IllegalArgumentException.class ? -10_000_000_002L
                        : type == IllegalStateException.class ? -10_000_000_003L : -10_000_000_009L;
            }
        }
    }
}
