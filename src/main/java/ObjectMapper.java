import java.util.ArrayList;
import java.util.Arrays;

/** A mapper of objects to tables: sessions of authors and books, flushed into rows that refer to one another. */
public final class ObjectMapper {
    public static final int NONE = -1;
    public static final int AUTHOR = 0, BOOK = 1;
    public static final int INSERT = 0, UPDATE = 1, DELETE = 2;

    private static final int SESSIONS = 3;
    private static final int HIGHEST_NAME = 1000;

    // The document promises 512 calls; each of them makes one key at most.
    private static final int MOST_KEYS = 512;

    // A call leads to three writes at most (a made author: inserted, given its favourite, deleted),
    // so that 512 calls stay far below this.
    private static final int MOST_WRITES = 4096;

    private final Table authorTable = new Table();
    private final Table bookTable = new Table();
    private final Journal journal = new Journal();
    private final Session[] sessions = new Session[SESSIONS];

    public ObjectMapper() {
        for (int i = 0; i < sessions.length; i++) {
            sessions[i] = new Session();
        }
    }

    // ---- objects of sessions

    public int makeAuthor(int session, int name) throws IndexOutOfBoundsException, IllegalArgumentException {
        Session own = sessionAt(session);
        checkRangeOfName(name);
        return makeEntity(own, AUTHOR, name, NONE);
    }

    public int makeBook(int session, int name, int author)
            throws IndexOutOfBoundsException, IllegalArgumentException, IllegalStateException {
        Session own = sessionAt(session);
        checkRangeOfName(name);
        checkLive(own, AUTHOR, author);
        return makeEntity(own, BOOK, name, author);
    }

    public boolean find(int session, int kind, int key) throws IndexOutOfBoundsException, IllegalArgumentException {
        Session own = sessionAt(session);
        checkKind(kind);
        Row row = tableOf(kind).rowAt(key);
        Entity entity = own.entityAt(kind, key);
        if (row.there && !entity.inSession) {
            entity.load(row);
        }
        return entity.isLive();
    }

    public int books(int session, int author) throws IndexOutOfBoundsException, IllegalStateException {
        Session own = sessionAt(session);
        checkLive(own, AUTHOR, author);
        loadReferring(own, BOOK, author);
        int count = 0;
        for (int key = 0; key < own.sizeOf(BOOK); key++) {
            if (own.entityAt(BOOK, key).isLiveAndRefersTo(author)) {
                count++;
            }
        }
        return count;
    }

    public void setName(int session, int kind, int key, int name)
            throws IndexOutOfBoundsException, IllegalArgumentException, IllegalStateException {
        Session own = sessionAt(session);
        checkKind(kind);
        checkRangeOfName(name);
        checkLive(own, kind, key);
        own.entityAt(kind, key).name = name;
    }

    public void setReference(int session, int kind, int key, int reference)
            throws IndexOutOfBoundsException, IllegalArgumentException, IllegalStateException {
        Session own = sessionAt(session);
        checkKind(kind);
        if (kind == BOOK && reference == NONE) {
            throw new IllegalArgumentException("a book needs an author");
        }
        checkLive(own, kind, key);
        if (reference != NONE) {
            checkLive(own, otherKind(kind), reference);
        }
        own.entityAt(kind, key).reference = reference;
    }

    public int remove(int session, int kind, int key)
            throws IndexOutOfBoundsException, IllegalArgumentException, IllegalStateException {
        Session own = sessionAt(session);
        checkKind(kind);
        checkLive(own, kind, key);
        if (kind == AUTHOR) {
            return removeAuthor(own, key);
        }
        removeBook(own, key);
        return 1;
    }

    public int name(int session, int kind, int key)
            throws IndexOutOfBoundsException, IllegalArgumentException, IllegalStateException {
        Session own = sessionAt(session);
        checkKind(kind);
        checkLive(own, kind, key);
        return own.entityAt(kind, key).name;
    }

    public int reference(int session, int kind, int key)
            throws IndexOutOfBoundsException, IllegalArgumentException, IllegalStateException {
        Session own = sessionAt(session);
        checkKind(kind);
        checkLive(own, kind, key);
        return own.entityAt(kind, key).reference;
    }

    public int known(int session) throws IndexOutOfBoundsException {
        Session own = sessionAt(session);
        return own.countLive(AUTHOR) + own.countLive(BOOK);
    }

    public int dirty(int session) throws IndexOutOfBoundsException {
        Session own = sessionAt(session);
        return own.countLiveAndDirty(AUTHOR) + own.countLiveAndDirty(BOOK);
    }

    // ---- flushing

    public int flush(int session) throws IndexOutOfBoundsException, IllegalStateException {
        Session own = sessionAt(session);
        if (journal.isFull()) {
            throw new IllegalStateException("too many writes");
        }
        Flush work = new Flush(own, authorTable, bookTable, journal);
        if (work.clashes() || work.leavesDanglingReference()) {
            throw new IllegalStateException("the flush fails");
        }
        int before = journal.size;
        work.doWrites();
        return journal.size - before;
    }

    public int clear(int session) throws IndexOutOfBoundsException {
        Session own = sessionAt(session);
        int live = own.countLive(AUTHOR) + own.countLive(BOOK);
        own.forgetAll(AUTHOR);
        own.forgetAll(BOOK);
        return live;
    }

    // ---- tables and writes

    public int rows(int kind) throws IllegalArgumentException {
        checkKind(kind);
        return tableOf(kind).countThere();
    }

    public int rowName(int kind, int key) throws IllegalArgumentException, IndexOutOfBoundsException {
        return checkedRow(kind, key).name;
    }

    public int rowReference(int kind, int key) throws IllegalArgumentException, IndexOutOfBoundsException {
        return checkedRow(kind, key).reference;
    }

    public int rowVersion(int kind, int key) throws IllegalArgumentException, IndexOutOfBoundsException {
        return checkedRow(kind, key).version;
    }

    public int writes() {
        return journal.size;
    }

    public int write(int number) throws IndexOutOfBoundsException {
        checkWrite(number);
        return journal.actionAt(number);
    }

    public int written(int number) throws IndexOutOfBoundsException {
        checkWrite(number);
        return journal.rowNumberAt(number);
    }

    // ---- tests of arguments

    private Session sessionAt(int session) {
        if (session < 0 || session >= sessions.length) {
            throw new IndexOutOfBoundsException("no such session");
        }
        return sessions[session];
    }

    private static void checkKind(int kind) {
        if (kind != AUTHOR && kind != BOOK) {
            throw new IllegalArgumentException("no such kind");
        }
    }

    private static void checkRangeOfName(int name) {
        if (name < 0 || name > HIGHEST_NAME) {
            throw new IllegalArgumentException("name out of range");
        }
    }

    private static void checkLive(Session own, int kind, int key) {
        if (!own.entityAt(kind, key).isLive()) {
            throw new IllegalStateException("object not known or removed");
        }
    }

    private Row checkedRow(int kind, int key) {
        checkKind(kind);
        Row row = tableOf(kind).rowAt(key);
        if (!row.there) {
            throw new IndexOutOfBoundsException("no such row");
        }
        return row;
    }

    private void checkWrite(int number) {
        if (number < 0 || number >= journal.size) {
            throw new IndexOutOfBoundsException("no such write");
        }
    }

    // ---- making, loading and removing

    private static int otherKind(int kind) {
        return kind == AUTHOR ? BOOK : AUTHOR;
    }

    private Table tableOf(int kind) {
        return kind == AUTHOR ? authorTable : bookTable;
    }

    private int makeEntity(Session own, int kind, int name, int reference) {
        int key = tableOf(kind).size();
        if (key >= MOST_KEYS) {
            // Only calls behind the 512th come here, and their answers are free.
            return NONE;
        }
        tableOf(kind).addPlace();
        for (int i = 0; i < sessions.length; i++) {
            sessions[i].addPlace(kind);
        }
        own.entityAt(kind, key).make(name, reference);
        return key;
    }

    private void loadReferring(Session own, int kind, int target) {
        Table table = tableOf(kind);
        for (int key = 0; key < table.size(); key++) {
            Row row = table.rowAt(key);
            Entity entity = own.entityAt(kind, key);
            if (row.there && row.reference == target && !entity.inSession) {
                entity.load(row);
            }
        }
    }

    private int removeAuthor(Session own, int author) {
        // The author goes first: its own favourite must stay as it is when that book is removed with it.
        own.entityAt(AUTHOR, author).strikeOut();
        loadReferring(own, BOOK, author);
        int count = 1;
        for (int key = 0; key < own.sizeOf(BOOK); key++) {
            if (own.entityAt(BOOK, key).isLiveAndRefersTo(author)) {
                removeBook(own, key);
                count++;
            }
        }
        return count;
    }

    private void removeBook(Session own, int book) {
        own.entityAt(BOOK, book).strikeOut();
        loadReferring(own, AUTHOR, book);
        for (int key = 0; key < own.sizeOf(AUTHOR); key++) {
            Entity author = own.entityAt(AUTHOR, key);
            if (author.isLiveAndRefersTo(book)) {
                author.reference = NONE;
            }
        }
    }

    // ---- the classes inside

    /** A row of a table, or the place of one that is not there (not yet, or not any more). */
    private static final class Row {
        boolean there;
        int name;
        int reference = NONE;
        int version;

        void insert(int newName, int newReference) {
            there = true;
            name = newName;
            reference = newReference;
            version = 0;
        }

        void update(int newName, int newReference) {
            name = newName;
            reference = newReference;
            version++;
        }
    }

    /** The rows of one kind, with a place for every key that was ever given. */
    private static final class Table {
        private final ArrayList<Row> places = new ArrayList<>();
        private final Row noRow = new Row();

        int size() {
            return places.size();
        }

        void addPlace() {
            places.add(new Row());
        }

        /** Never null: a key that was never given has a row that is not there. */
        Row rowAt(int key) {
            if (key < 0 || key >= places.size()) {
                return noRow;
            }
            return places.get(key);
        }

        int countThere() {
            int count = 0;
            for (int key = 0; key < places.size(); key++) {
                if (rowAt(key).there) {
                    count++;
                }
            }
            return count;
        }
    }

    /** The object of a session for one key, or the place of one that the session does not know. */
    private static final class Entity {
        boolean inSession;
        boolean struckOut;
        boolean hasSnapshot;
        int name;
        int reference = NONE;
        private int snapshotName;
        private int snapshotReference;
        private int snapshotVersion;

        void make(int newName, int newReference) {
            inSession = true;
            name = newName;
            reference = newReference;
        }

        void load(Row row) {
            make(row.name, row.reference);
            takeSnapshot(row);
        }

        void takeSnapshot(Row row) {
            hasSnapshot = true;
            snapshotName = row.name;
            snapshotReference = row.reference;
            snapshotVersion = row.version;
        }

        void forget() {
            inSession = false;
            struckOut = false;
            hasSnapshot = false;
        }

        void strikeOut() {
            if (hasSnapshot) {
                struckOut = true;
            } else {
                forget();
            }
        }

        boolean isLive() {
            return inSession && !struckOut;
        }

        boolean isLiveAndRefersTo(int target) {
            return isLive() && reference == target;
        }

        boolean isNew() {
            return inSession && !hasSnapshot;
        }

        /** Holds for struck out objects too, as the document's word "dirty" does. */
        boolean isChanged() {
            return hasSnapshot && (name != snapshotName || reference != snapshotReference);
        }

        boolean clashesWith(Row row) {
            return (isChanged() || struckOut) && (!row.there || row.version != snapshotVersion);
        }
    }

    /** The objects of one session, with a place for every key that was ever given. */
    private static final class Session {
        private final ArrayList<Entity> authorPlaces = new ArrayList<>();
        private final ArrayList<Entity> bookPlaces = new ArrayList<>();
        private final Entity nobody = new Entity();

        private ArrayList<Entity> listOf(int kind) {
            return kind == AUTHOR ? authorPlaces : bookPlaces;
        }

        int sizeOf(int kind) {
            return listOf(kind).size();
        }

        void addPlace(int kind) {
            listOf(kind).add(new Entity());
        }

        /** Never null: a key that was never given has an object that the session does not know. */
        Entity entityAt(int kind, int key) {
            ArrayList<Entity> list = listOf(kind);
            if (key < 0 || key >= list.size()) {
                return nobody;
            }
            return list.get(key);
        }

        int countLive(int kind) {
            int count = 0;
            for (int key = 0; key < sizeOf(kind); key++) {
                if (entityAt(kind, key).isLive()) {
                    count++;
                }
            }
            return count;
        }

        int countLiveAndDirty(int kind) {
            int count = 0;
            for (int key = 0; key < sizeOf(kind); key++) {
                Entity entity = entityAt(kind, key);
                if (entity.isLive() && entity.isChanged()) {
                    count++;
                }
            }
            return count;
        }

        void forgetAll(int kind) {
            for (int key = 0; key < sizeOf(kind); key++) {
                entityAt(kind, key).forget();
            }
        }
    }

    /** The writes of all sessions in the order in which they were done. */
    private static final class Journal {
        private static final int FIRST_LENGTH = 64;

        int size;
        private int[] actions = new int[FIRST_LENGTH];
        private int[] rowNumbers = new int[FIRST_LENGTH];

        /** Asked once before a flush: what one flush adds is bounded by the keys. */
        boolean isFull() {
            return size >= MOST_WRITES;
        }

        void note(int action, int kind, int key) {
            if (size >= actions.length || size >= rowNumbers.length) {
                actions = Arrays.copyOf(actions, 2 * size);
                rowNumbers = Arrays.copyOf(rowNumbers, 2 * size);
            }
            actions[size] = action;
            rowNumbers[size] = 2 * key + (kind == BOOK ? 1 : 0);
            size++;
        }

        int actionAt(int number) {
            return number < 0 || number >= actions.length ? NONE : actions[number];
        }

        int rowNumberAt(int number) {
            return number < 0 || number >= rowNumbers.length ? NONE : rowNumbers[number];
        }
    }

    /** One flush of one session: first asked whether it would fail, then told to do all its writes. */
    private static final class Flush {
        private final Session session;
        private final Table authorTable;
        private final Table bookTable;
        private final Journal journal;

        Flush(Session session, Table authorTable, Table bookTable, Journal journal) {
            this.session = session;
            this.authorTable = authorTable;
            this.bookTable = bookTable;
            this.journal = journal;
        }

        private Table tableFor(int kind) {
            return kind == AUTHOR ? authorTable : bookTable;
        }

        boolean clashes() {
            return clashesIn(AUTHOR) || clashesIn(BOOK);
        }

        private boolean clashesIn(int kind) {
            for (int key = 0; key < session.sizeOf(kind); key++) {
                if (session.entityAt(kind, key).clashesWith(tableFor(kind).rowAt(key))) {
                    return true;
                }
            }
            return false;
        }

        boolean leavesDanglingReference() {
            return leavesDanglingIn(AUTHOR) || leavesDanglingIn(BOOK);
        }

        private boolean leavesDanglingIn(int kind) {
            for (int key = 0; key < session.sizeOf(kind); key++) {
                int reference = referenceBehind(kind, key);
                if (isThereBehind(kind, key) && reference != NONE && !isThereBehind(otherKind(kind), reference)) {
                    return true;
                }
            }
            return false;
        }

        /** Whether there will be a row behind all writes. */
        private boolean isThereBehind(int kind, int key) {
            Entity entity = session.entityAt(kind, key);
            return entity.isNew() || !entity.struckOut && tableFor(kind).rowAt(key).there;
        }

        /** What the row will refer to behind all writes. */
        private int referenceBehind(int kind, int key) {
            Entity entity = session.entityAt(kind, key);
            return entity.isNew() || entity.isChanged() ? entity.reference : tableFor(kind).rowAt(key).reference;
        }

        void doWrites() {
            insertAuthors();
            insertBooks();
            updateChanged(AUTHOR);
            updateChanged(BOOK);
            deleteStruckOut(BOOK);
            deleteStruckOut(AUTHOR);
        }

        private void insertAuthors() {
            for (int key = 0; key < session.sizeOf(AUTHOR); key++) {
                Entity author = session.entityAt(AUTHOR, key);
                if (author.isNew()) {
                    boolean favouriteThere = bookTable.rowAt(author.reference).there;
                    // An author inserted without its favourite differs from its snapshot, and so is updated later.
                    insert(author, AUTHOR, key, favouriteThere ? author.reference : NONE);
                }
            }
        }

        private void insertBooks() {
            for (int key = 0; key < session.sizeOf(BOOK); key++) {
                Entity book = session.entityAt(BOOK, key);
                if (book.isNew()) {
                    insert(book, BOOK, key, book.reference);
                }
            }
        }

        private void insert(Entity entity, int kind, int key, int reference) {
            Row row = tableFor(kind).rowAt(key);
            row.insert(entity.name, reference);
            journal.note(INSERT, kind, key);
            entity.takeSnapshot(row);
        }

        private void updateChanged(int kind) {
            for (int key = 0; key < session.sizeOf(kind); key++) {
                Entity entity = session.entityAt(kind, key);
                if (entity.isChanged()) {
                    Row row = tableFor(kind).rowAt(key);
                    row.update(entity.name, entity.reference);
                    journal.note(UPDATE, kind, key);
                    entity.takeSnapshot(row);
                }
            }
        }

        private void deleteStruckOut(int kind) {
            for (int key = 0; key < session.sizeOf(kind); key++) {
                Entity entity = session.entityAt(kind, key);
                if (entity.struckOut) {
                    tableFor(kind).rowAt(key).there = false;
                    journal.note(DELETE, kind, key);
                    entity.forget();
                }
            }
        }
    }
}
