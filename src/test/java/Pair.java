import java.util.Arrays;

/** A mapper and a PlainModel of which the same calls are made; the first answer that differs is told with its run. */
final class Pair {
    final ObjectMapper x = new ObjectMapper();
    final PlainModel y = new PlainModel();
    private final String name;
    private final StringBuilder calls = new StringBuilder();
    private boolean fits = true;
    private int done;

    Pair(String name) {
        this.name = name;
    }

    boolean fits() {
        return fits;
    }

    /** The number of calls that were made of the mapper. */
    int done() {
        return done;
    }

    /** Makes a call of both; gives the model's answer. */
    int does(Call call, int... arguments) {
        int due = call.of(y, arguments);
        if (!fits) {
            return due;
        }
        int answer = call.of(x, arguments);
        done++;
        calls.append("\n  ").append(call).append(Arrays.toString(arguments)).append(" -> ").append(answer);
        if (answer != due) {
            fits = false;
            Check.same(name + ": " + calls + "\n  the last call", answer, due);
        }
        return due;
    }
}
