import java.util.ArrayList;
import java.util.List;
import java.util.TreeMap;

/**
 * The document once more, in another way: maps of objects, and a flush that writes into copies of the tables, looks
 * at them, and throws them away if it fails.
 */
final class PlainModel {
    private static final int NONE = -1;

    private record Row(int name, int reference, int version) {
    }

    private static final class Thing {
        int name;
        int reference;
        Row snapshot;
        boolean removed;

        boolean isDirty() {
            return snapshot != null && (name != snapshot.name || reference != snapshot.reference);
        }

        @Override
        public String toString() {
            return name + " " + reference + " " + snapshot + (removed ? " removed" : "");
        }
    }

    private static final class Fails extends Exception {
        private static final long serialVersionUID = 1L;
    }

    private final int[] nextKey = new int[2];
    private List<TreeMap<Integer, Row>> tables = List.of(new TreeMap<>(), new TreeMap<>());
    private final List<List<TreeMap<Integer, Thing>>> sessions = new ArrayList<>();
    private List<Integer> log = new ArrayList<>();

    PlainModel() {
        for (int i = 0; i < 3; i++) {
            sessions.add(List.of(new TreeMap<>(), new TreeMap<>()));
        }
    }

    /** All that later answers hang on, but for the writes that were done. */
    String state() {
        return nextKey[0] + " " + nextKey[1] + tables + sessions;
    }

    int keys(int kind) {
        return nextKey[kind];
    }

    /** The keys of the rows of a kind. */
    List<Integer> rowKeys(int kind) {
        return new ArrayList<>(tables.get(kind).keySet());
    }

    /** The keys of the objects that a session knows and that are not removed. */
    List<Integer> liveKeys(int session, int kind) {
        List<Integer> keys = new ArrayList<>();
        for (var entry : sessions.get(session).get(kind).entrySet()) {
            if (!entry.getValue().removed) {
                keys.add(entry.getKey());
            }
        }
        return keys;
    }

    int makeAuthor(int session, int name) {
        needSession(session);
        needArgument(name >= 0 && name <= 1000);
        return make(session, 0, name, NONE);
    }

    int makeBook(int session, int name, int author) {
        needSession(session);
        needArgument(name >= 0 && name <= 1000);
        live(session, 0, author);
        return make(session, 1, name, author);
    }

    private int make(int session, int kind, int name, int reference) {
        Thing thing = new Thing();
        thing.name = name;
        thing.reference = reference;
        sessions.get(session).get(kind).put(nextKey[kind], thing);
        return nextKey[kind]++;
    }

    int find(int session, int kind, int key) {
        needSession(session);
        needArgument(kind == 0 || kind == 1);
        if (tables.get(kind).containsKey(key)) {
            load(session, kind, key);
        }
        Thing thing = sessions.get(session).get(kind).get(key);
        return thing != null && !thing.removed ? 1 : 0;
    }

    int books(int session, int author) {
        needSession(session);
        live(session, 0, author);
        loadReferring(session, 1, author);
        return referring(session, 1, author).size();
    }

    int setName(int session, int kind, int key, int name) {
        needSession(session);
        needArgument((kind == 0 || kind == 1) && name >= 0 && name <= 1000);
        live(session, kind, key).name = name;
        return 0;
    }

    int setReference(int session, int kind, int key, int reference) {
        needSession(session);
        needArgument(kind == 0 || kind == 1 && reference != NONE);
        Thing thing = live(session, kind, key);
        if (reference != NONE) {
            live(session, 1 - kind, reference);
        }
        thing.reference = reference;
        return 0;
    }

    int remove(int session, int kind, int key) {
        needSession(session);
        needArgument(kind == 0 || kind == 1);
        Thing thing = live(session, kind, key);
        thing.removed = true;
        int count = 1;
        loadReferring(session, 1 - kind, key);
        for (int other : referring(session, 1 - kind, key)) {
            if (kind == 0) {
                count += remove(session, 1, other);
            } else {
                sessions.get(session).get(0).get(other).reference = NONE;
            }
        }
        if (thing.snapshot == null) {
            sessions.get(session).get(kind).remove(key);
        }
        return count;
    }

    int name(int session, int kind, int key) {
        needSession(session);
        needArgument(kind == 0 || kind == 1);
        return live(session, kind, key).name;
    }

    int reference(int session, int kind, int key) {
        needSession(session);
        needArgument(kind == 0 || kind == 1);
        return live(session, kind, key).reference;
    }

    int known(int session) {
        needSession(session);
        int count = 0;
        for (TreeMap<Integer, Thing> things : sessions.get(session)) {
            for (Thing thing : things.values()) {
                count += thing.removed ? 0 : 1;
            }
        }
        return count;
    }

    int dirty(int session) {
        needSession(session);
        int count = 0;
        for (TreeMap<Integer, Thing> things : sessions.get(session)) {
            for (Thing thing : things.values()) {
                count += !thing.removed && thing.isDirty() ? 1 : 0;
            }
        }
        return count;
    }

    int clear(int session) {
        int count = known(session);
        sessions.get(session).get(0).clear();
        sessions.get(session).get(1).clear();
        return count;
    }

    int flush(int session) {
        needSession(session);
        List<TreeMap<Integer, Row>> copies = List.of(new TreeMap<>(tables.get(0)), new TreeMap<>(tables.get(1)));
        List<Integer> newLog = new ArrayList<>(log);
        try {
            checkVersions(session);
            writeAll(session, copies, newLog);
            checkReferences(copies);
        } catch (Fails e) {
            throw new IllegalStateException();
        }
        int count = newLog.size() - log.size();
        for (int number = log.size(); number < newLog.size(); number++) {
            int row = newLog.get(number) / 3;
            Thing thing = sessions.get(session).get(row % 2).get(row / 2);
            thing.snapshot = copies.get(row % 2).get(row / 2);
        }
        for (TreeMap<Integer, Thing> things : sessions.get(session)) {
            things.values().removeIf(thing -> thing.removed);
        }
        tables = copies;
        log = newLog;
        return count;
    }

    private void checkVersions(int session) throws Fails {
        for (int kind = 0; kind < 2; kind++) {
            for (var entry : sessions.get(session).get(kind).entrySet()) {
                Thing thing = entry.getValue();
                Row row = tables.get(kind).get(entry.getKey());
                if ((thing.removed || thing.isDirty()) && (row == null || row.version != thing.snapshot.version)) {
                    throw new Fails();
                }
            }
        }
    }

    private void writeAll(int session, List<TreeMap<Integer, Row>> copies, List<Integer> newLog) {
        for (int kind = 0; kind < 2; kind++) {
            for (var entry : sessions.get(session).get(kind).entrySet()) {
                Thing thing = entry.getValue();
                if (thing.snapshot == null) {
                    boolean with = copies.get(1 - kind).containsKey(thing.reference);
                    copies.get(kind).put(entry.getKey(), new Row(thing.name, with || kind == 1 ? thing.reference : NONE, 0));
                    newLog.add(3 * (2 * entry.getKey() + kind));
                }
            }
        }
        for (int kind = 0; kind < 2; kind++) {
            for (var entry : sessions.get(session).get(kind).entrySet()) {
                Thing thing = entry.getValue();
                Row row = copies.get(kind).get(entry.getKey());
                boolean without = thing.snapshot == null && row.reference != thing.reference;
                if (thing.isDirty() || without) {
                    copies.get(kind).put(entry.getKey(), new Row(thing.name, thing.reference, row.version + 1));
                    newLog.add(3 * (2 * entry.getKey() + kind) + 1);
                }
            }
        }
        for (int kind = 1; kind >= 0; kind--) {
            for (var entry : sessions.get(session).get(kind).entrySet()) {
                if (entry.getValue().removed) {
                    copies.get(kind).remove(entry.getKey());
                    newLog.add(3 * (2 * entry.getKey() + kind) + 2);
                }
            }
        }
    }

    private static void checkReferences(List<TreeMap<Integer, Row>> copies) throws Fails {
        for (int kind = 0; kind < 2; kind++) {
            for (Row row : copies.get(kind).values()) {
                if (row.reference != NONE && !copies.get(1 - kind).containsKey(row.reference)) {
                    throw new Fails();
                }
            }
        }
    }

    int rows(int kind) {
        needArgument(kind == 0 || kind == 1);
        return tables.get(kind).size();
    }

    int rowName(int kind, int key) {
        return row(kind, key).name;
    }

    int rowReference(int kind, int key) {
        return row(kind, key).reference;
    }

    int rowVersion(int kind, int key) {
        return row(kind, key).version;
    }

    int writes() {
        return log.size();
    }

    int write(int number) {
        return logged(number) % 3;
    }

    int written(int number) {
        return logged(number) / 3;
    }

    private int logged(int number) {
        if (number < 0 || number >= log.size()) {
            throw new IndexOutOfBoundsException();
        }
        return log.get(number);
    }

    private Row row(int kind, int key) {
        needArgument(kind == 0 || kind == 1);
        Row row = tables.get(kind).get(key);
        if (row == null) {
            throw new IndexOutOfBoundsException();
        }
        return row;
    }

    private void load(int session, int kind, int key) {
        if (!sessions.get(session).get(kind).containsKey(key)) {
            Thing thing = new Thing();
            thing.snapshot = tables.get(kind).get(key);
            thing.name = thing.snapshot.name;
            thing.reference = thing.snapshot.reference;
            sessions.get(session).get(kind).put(key, thing);
        }
    }

    private void loadReferring(int session, int kind, int target) {
        for (var entry : tables.get(kind).entrySet()) {
            if (entry.getValue().reference == target) {
                load(session, kind, entry.getKey());
            }
        }
    }

    private List<Integer> referring(int session, int kind, int target) {
        List<Integer> keys = new ArrayList<>();
        for (var entry : sessions.get(session).get(kind).entrySet()) {
            if (!entry.getValue().removed && entry.getValue().reference == target) {
                keys.add(entry.getKey());
            }
        }
        return keys;
    }

    private Thing live(int session, int kind, int key) {
        Thing thing = sessions.get(session).get(kind).get(key);
        if (thing == null || thing.removed) {
            throw new IllegalStateException();
        }
        return thing;
    }

    private static void needSession(int session) {
        if (session < 0 || session > 2) {
            throw new IndexOutOfBoundsException();
        }
    }

    private static void needArgument(boolean holds) {
        if (!holds) {
            throw new IllegalArgumentException();
        }
    }
}
