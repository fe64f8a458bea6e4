import java.util.ArrayList;
import java.util.HashSet;
import java.util.List;
import java.util.Set;

/**
 * Every short run of calls that two sessions can make in a small world: each answer, and all that can be asked for
 * behind each call, compared with PlainModel. A run that leads to a state that another one led to is not made longer.
 */
public final class AllShortRunsTest {
    private static final int SESSIONS = 2;

    private record Step(Call call, int... arguments) {
    }

    private static int made;

    public static void main(String[] args) {
        allRuns("nothing is there", List.of(), 6, 2);
        allRuns("rows that no session knows", unknownRows(), 4, 2);
        allRuns("rows that both sessions know", knownRows(), 3, 3);
        allRuns("rows and made objects", knownRowsAndMadeObjects(), 3, 3);
        allRuns("removed objects", removedObjects(), 3, 3);
        allRuns("objects whose rows are gone", objectsWithoutRows(), 3, 3);
        System.out.println(made + " runs");
        Check.end();
    }

    // Authors 0 and 1, book 0 by author 0 and book 1 by author 1; author 0 likes book 1.
    private static List<Step> unknownRows() {
        List<Step> run = new ArrayList<>();
        run.add(new Step(Call.MAKE_AUTHOR, 0, 0));
        run.add(new Step(Call.MAKE_AUTHOR, 0, 0));
        run.add(new Step(Call.MAKE_BOOK, 0, 0, 0));
        run.add(new Step(Call.MAKE_BOOK, 0, 0, 1));
        run.add(new Step(Call.SET_REFERENCE, 0, 0, 0, 1));
        run.add(new Step(Call.FLUSH, 0));
        run.add(new Step(Call.CLEAR, 0));
        return run;
    }

    private static List<Step> knownRows() {
        List<Step> run = unknownRows();
        for (int session = 0; session < SESSIONS; session++) {
            for (int kind = 0; kind < 2; kind++) {
                run.add(new Step(Call.FIND, session, kind, 0));
                run.add(new Step(Call.FIND, session, kind, 1));
            }
        }
        return run;
    }

    private static List<Step> knownRowsAndMadeObjects() {
        List<Step> run = knownRows();
        run.add(new Step(Call.MAKE_AUTHOR, 1, 0));
        run.add(new Step(Call.MAKE_BOOK, 1, 0, 2));
        run.add(new Step(Call.SET_REFERENCE, 1, 0, 2, 2));
        run.add(new Step(Call.SET_NAME, 0, 0, 1, 1));
        return run;
    }

    private static List<Step> removedObjects() {
        List<Step> run = knownRows();
        run.add(new Step(Call.REMOVE, 1, 1, 1));
        run.add(new Step(Call.REMOVE, 0, 0, 0));
        return run;
    }

    // Session 1 has deleted author 1 and book 1, which session 0 still knows.
    private static List<Step> objectsWithoutRows() {
        List<Step> run = knownRows();
        run.add(new Step(Call.REMOVE, 1, 0, 1));
        run.add(new Step(Call.FLUSH, 1));
        return run;
    }

    private static void allRuns(String world, List<Step> start, int length, int mostKeys) {
        Set<String> seen = new HashSet<>();
        List<List<Step>> runs = List.of(start);
        for (int i = 0; i < length; i++) {
            List<List<Step>> longer = new ArrayList<>();
            for (List<Step> run : runs) {
                addLonger(longer, seen, world, run, mostKeys);
            }
            runs = longer;
        }
    }

    private static void addLonger(List<List<Step>> longer, Set<String> seen, String world, List<Step> run, int mostKeys) {
        for (Step step : stepsBehind(run, mostKeys)) {
            // One run that is told is enough: a fault shows in thousands of them.
            if (!Check.clean()) {
                return;
            }
            List<Step> next = new ArrayList<>(run);
            next.add(step);
            if (seen.add(compare(world, next))) {
                longer.add(next);
            }
        }
    }

    /** Makes the run of both and looks at all that they answer; gives the state behind the run. */
    private static String compare(String world, List<Step> run) {
        made++;
        Pair pair = new Pair(world);
        for (Step step : run) {
            pair.does(step.call, step.arguments);
        }
        String state = pair.y.state();
        askAll(pair);
        for (int session = 0; session < SESSIONS; session++) {
            wear(pair, session);
            askAll(pair);
        }
        return state;
    }

    // Snapshots and removed objects show when each object is changed, and flushed.
    private static void wear(Pair pair, int session) {
        for (int kind = 0; kind < 2; kind++) {
            for (int key : pair.y.liveKeys(session, kind)) {
                pair.does(Call.SET_NAME, session, kind, key, 2);
            }
        }
        pair.does(Call.FLUSH, session);
    }

    private static void askAll(Pair pair) {
        for (int session = 0; session < SESSIONS; session++) {
            pair.does(Call.KNOWN, session);
            pair.does(Call.DIRTY, session);
            for (int kind = 0; kind < 2; kind++) {
                for (int key : pair.y.liveKeys(session, kind)) {
                    pair.does(Call.NAME, session, kind, key);
                    pair.does(Call.REFERENCE, session, kind, key);
                }
            }
        }
        for (int kind = 0; kind < 2; kind++) {
            pair.does(Call.ROWS, kind);
            for (int key : pair.y.rowKeys(kind)) {
                pair.does(Call.ROW_NAME, kind, key);
                pair.does(Call.ROW_REFERENCE, kind, key);
                pair.does(Call.ROW_VERSION, kind, key);
            }
        }
        int writes = pair.does(Call.WRITES);
        for (int number = 0; number < writes; number++) {
            pair.does(Call.WRITE, number);
            pair.does(Call.WRITTEN, number);
        }
    }

    private static List<Step> stepsBehind(List<Step> run, int mostKeys) {
        PlainModel model = new PlainModel();
        for (Step step : run) {
            step.call.of(model, step.arguments);
        }
        List<Step> steps = new ArrayList<>();
        for (int session = 0; session < SESSIONS; session++) {
            if (model.keys(0) < mostKeys) {
                steps.add(new Step(Call.MAKE_AUTHOR, session, 0));
            }
            for (int author = 0; author < model.keys(0); author++) {
                steps.add(new Step(Call.BOOKS, session, author));
                if (model.keys(1) < mostKeys) {
                    steps.add(new Step(Call.MAKE_BOOK, session, 0, author));
                }
            }
            addStepsOfObjects(steps, session, 0, model);
            addStepsOfObjects(steps, session, 1, model);
            steps.add(new Step(Call.FLUSH, session));
            steps.add(new Step(Call.CLEAR, session));
        }
        return steps;
    }

    private static void addStepsOfObjects(List<Step> steps, int session, int kind, PlainModel model) {
        for (int key = 0; key < model.keys(kind); key++) {
            steps.add(new Step(Call.FIND, session, kind, key));
            steps.add(new Step(Call.REMOVE, session, kind, key));
            steps.add(new Step(Call.SET_NAME, session, kind, key, 1));
            for (int reference = ObjectMapper.NONE; reference < model.keys(1 - kind); reference++) {
                steps.add(new Step(Call.SET_REFERENCE, session, kind, key, reference));
            }
        }
    }
}
