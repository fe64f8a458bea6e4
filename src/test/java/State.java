/** Everything about a mapper that can be asked for without changing it, as a text. */
final class State {
    private static final int SESSIONS = 3;

    private State() {
    }

    static String of(ObjectMapper x, int keys) {
        StringBuilder text = new StringBuilder();
        for (int session = 0; session < SESSIONS; session++) {
            text.append("\nsession ").append(session).append(": known ").append(x.known(session))
                    .append(", dirty ").append(x.dirty(session));
            for (int kind = 0; kind < 2; kind++) {
                for (int key = 0; key < keys; key++) {
                    appendObject(text, x, session, kind, key);
                }
            }
        }
        for (int kind = 0; kind < 2; kind++) {
            text.append("\nrows ").append(x.rows(kind));
            for (int key = 0; key < keys; key++) {
                appendRow(text, x, kind, key);
            }
        }
        text.append("\nwrites");
        for (int number = 0; number < x.writes(); number++) {
            text.append(' ').append(x.write(number)).append(':').append(x.written(number));
        }
        return text.toString();
    }

    /** The writes from a number on, such as "I0 I1 U0 D1": what was done, and to which row. */
    static String writesFrom(ObjectMapper x, int first) {
        StringBuilder text = new StringBuilder();
        for (int number = first; number < x.writes(); number++) {
            text.append(number == first ? "" : " ").append("IUD".charAt(x.write(number))).append(x.written(number));
        }
        return text.toString();
    }

    /** A row as "name reference version", or "none". */
    static String row(ObjectMapper x, int kind, int key) {
        try {
            return x.rowName(kind, key) + " " + x.rowReference(kind, key) + " " + x.rowVersion(kind, key);
        } catch (IndexOutOfBoundsException e) {
            return "none";
        }
    }

    /** An object as "name reference", or "none". */
    static String object(ObjectMapper x, int session, int kind, int key) {
        try {
            return x.name(session, kind, key) + " " + x.reference(session, kind, key);
        } catch (IllegalStateException e) {
            return "none";
        }
    }

    /**
     * What cannot be asked for, but shows later: which objects a session knows as removed, and which snapshots they
     * have. It finds everything, flushes each session, and clears it, so that the mapper is worn out by it.
     */
    static String afterwards(ObjectMapper x, int keys) {
        StringBuilder text = new StringBuilder();
        for (int session = 0; session < SESSIONS; session++) {
            text.append("\nsession ").append(session).append(" finds");
            for (int kind = 0; kind < 2; kind++) {
                for (int key = 0; key < keys; key++) {
                    text.append(x.find(session, kind, key) ? " 1" : " 0");
                }
            }
            text.append(of(x, keys)).append("\nflush ").append(flush(x, session)).append(of(x, keys));
            text.append("\nclear ").append(x.clear(session));
        }
        return text.append(" next keys ").append(x.makeAuthor(0, 0)).append(' ')
                .append(x.makeBook(0, 0, x.makeAuthor(0, 0))).toString();
    }

    /** How many writes a flush does, or that it fails. */
    static String flush(ObjectMapper x, int session) {
        try {
            return x.flush(session) + " writes";
        } catch (IllegalStateException e) {
            return "fails";
        }
    }

    private static void appendObject(StringBuilder text, ObjectMapper x, int session, int kind, int key) {
        text.append(" [").append(object(x, session, kind, key)).append(']');
    }

    private static void appendRow(StringBuilder text, ObjectMapper x, int kind, int key) {
        text.append(" [").append(row(x, kind, key)).append(']');
    }
}
