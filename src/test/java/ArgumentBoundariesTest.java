/**
 * Each argument's range: the last number in it and the first outside it, on both sides, and the farthest numbers.
 * Where two arguments are wrong, the exception that the document lists first is due.
 */
public final class ArgumentBoundariesTest {
    private static final int NONE = ObjectMapper.NONE;
    private static final int AUTHOR = ObjectMapper.AUTHOR;
    private static final int BOOK = ObjectMapper.BOOK;
    private static final int LOWEST = Integer.MIN_VALUE;
    private static final int HIGHEST = Integer.MAX_VALUE;

    /** A key that no session knows and no table has. */
    private static final int NO_KEY = 9;
    private static final int KEYS = 10;

    private interface Use {
        void of(ObjectMapper x, int number);
    }

    /** A call with one argument left open. */
    private record Open(String text, Use use) {
    }

    public static void main(String[] args) {
        sessions();
        kinds();
        namesOfMadeAuthors();
        namesOfMadeBooks();
        namesThatAreSet();
        authorsOfMadeBooks();
        authorsWhoseBooksAreAsked();
        keysOfObjects(AUTHOR);
        keysOfObjects(BOOK);
        keysThatAreFound();
        favourites();
        authorsOfBooks();
        keysOfRows();
        numbersOfWrites();
        Check.end();
    }

    // Authors 0, 1 and 2 and books 0, 1 and 2 have rows: author 0 and book 0 are known to all sessions; author 1 and
    // book 1 to session 0 alone, which has removed them; author 2 and book 2 were deleted. Author 3 and book 3 were
    // made in session 1, author 4 and book 4 in session 0, all of them without rows.
    private static ObjectMapper prepared() {
        ObjectMapper x = new ObjectMapper();
        for (int key = 0; key < 3; key++) {
            x.makeAuthor(0, 10 + key);
            x.makeBook(0, 20 + key, key);
        }
        x.flush(0);
        x.remove(0, AUTHOR, 2);
        x.flush(0);
        x.remove(0, AUTHOR, 1);
        for (int session = 1; session < 3; session++) {
            x.find(session, AUTHOR, 0);
            x.find(session, BOOK, 0);
        }
        x.makeAuthor(1, 13);
        x.makeBook(1, 23, 3);
        x.makeAuthor(0, 14);
        x.makeBook(0, 24, 4);
        return x;
    }

    private static void fits(Open open, int number) {
        ObjectMapper x = prepared();
        try {
            open.use.of(x, number);
        } catch (RuntimeException e) {
            Check.fault(open.text + " with " + number + " throws " + e);
        }
    }

    private static void refused(Open open, int number, String sort) {
        ObjectMapper x = prepared();
        String before = State.of(x, KEYS);
        String what = open.text + " with " + number;
        Check.Call call = () -> open.use.of(x, number);
        switch (sort) {
            case "index" -> Check.outside(what, call);
            case "argument" -> Check.badArgument(what, call);
            default -> Check.badState(what, call);
        }
        Check.same(what + " changes nothing", State.of(x, KEYS), before);
        Check.same(what + " changes nothing that a flush shows", State.afterwards(x, KEYS),
                State.afterwards(prepared(), KEYS));
    }

    private static void range(Open open, int[] good, int[] bad, String sort) {
        for (int number : good) {
            fits(open, number);
        }
        for (int number : bad) {
            refused(open, number, sort);
        }
    }

    // "if there is no such session": the sessions are 0 to 2, and this comes first.
    private static void sessions() {
        Open[] alone = {
            new Open("makeAuthor", (x, s) -> x.makeAuthor(s, 5)),
            new Open("makeBook", (x, s) -> x.makeBook(s, 5, 0)),
            new Open("find", (x, s) -> x.find(s, AUTHOR, 0)),
            new Open("books", (x, s) -> x.books(s, 0)),
            new Open("setName", (x, s) -> x.setName(s, AUTHOR, 0, 5)),
            new Open("setReference", (x, s) -> x.setReference(s, AUTHOR, 0, 0)),
            new Open("remove", (x, s) -> x.remove(s, BOOK, 0)),
            new Open("name", (x, s) -> x.name(s, AUTHOR, 0)),
            new Open("reference", (x, s) -> x.reference(s, BOOK, 0)),
            new Open("known", (x, s) -> x.known(s)),
            new Open("dirty", (x, s) -> x.dirty(s)),
            new Open("flush", (x, s) -> x.flush(s)),
            new Open("clear", (x, s) -> x.clear(s)),
        };
        Open[] withOthersWrong = {
            new Open("makeAuthor, name wrong", (x, s) -> x.makeAuthor(s, -1)),
            new Open("makeBook, name wrong", (x, s) -> x.makeBook(s, 1001, 0)),
            new Open("makeBook, author wrong", (x, s) -> x.makeBook(s, 5, NO_KEY)),
            new Open("find, kind wrong", (x, s) -> x.find(s, 2, 0)),
            new Open("books, author wrong", (x, s) -> x.books(s, NO_KEY)),
            new Open("setName, kind wrong", (x, s) -> x.setName(s, 2, 0, 5)),
            new Open("setName, name wrong", (x, s) -> x.setName(s, AUTHOR, 0, -1)),
            new Open("setName, key wrong", (x, s) -> x.setName(s, AUTHOR, NO_KEY, 5)),
            new Open("setReference, kind wrong", (x, s) -> x.setReference(s, 2, 0, 0)),
            new Open("setReference, NONE for a book", (x, s) -> x.setReference(s, BOOK, 0, NONE)),
            new Open("setReference, key wrong", (x, s) -> x.setReference(s, AUTHOR, NO_KEY, 0)),
            new Open("remove, kind wrong", (x, s) -> x.remove(s, 2, 0)),
            new Open("remove, key wrong", (x, s) -> x.remove(s, AUTHOR, NO_KEY)),
            new Open("name, kind wrong", (x, s) -> x.name(s, 2, 0)),
            new Open("name, key wrong", (x, s) -> x.name(s, AUTHOR, NO_KEY)),
            new Open("reference, kind wrong", (x, s) -> x.reference(s, 2, 0)),
            new Open("reference, key wrong", (x, s) -> x.reference(s, AUTHOR, NO_KEY)),
        };
        int[] good = {0, 1, 2};
        int[] bad = {-1, 3, LOWEST, HIGHEST};
        for (Open open : alone) {
            range(open, good, bad, "index");
        }
        for (Open open : withOthersWrong) {
            range(open, new int[0], bad, "index");
        }
    }

    // "kind: AUTHOR or BOOK": it comes ahead of what is wrong with the key, in the tables too.
    private static void kinds() {
        Open[] alone = {
            new Open("find", (x, k) -> x.find(0, k, 0)),
            new Open("setName", (x, k) -> x.setName(0, k, 0, 5)),
            new Open("setReference", (x, k) -> x.setReference(0, k, 0, 0)),
            new Open("remove", (x, k) -> x.remove(0, k, 0)),
            new Open("name", (x, k) -> x.name(0, k, 0)),
            new Open("reference", (x, k) -> x.reference(0, k, 0)),
            new Open("rows", (x, k) -> x.rows(k)),
            new Open("rowName", (x, k) -> x.rowName(k, 0)),
            new Open("rowReference", (x, k) -> x.rowReference(k, 0)),
            new Open("rowVersion", (x, k) -> x.rowVersion(k, 0)),
        };
        Open[] withKeyWrong = {
            new Open("find, key wrong", (x, k) -> x.find(0, k, NO_KEY)),
            new Open("setName, key wrong", (x, k) -> x.setName(0, k, NO_KEY, 5)),
            new Open("setReference, key wrong", (x, k) -> x.setReference(0, k, NO_KEY, 0)),
            new Open("setReference, reference wrong", (x, k) -> x.setReference(0, k, 0, NO_KEY)),
            new Open("setReference, NONE", (x, k) -> x.setReference(0, k, 0, NONE)),
            new Open("remove, key wrong", (x, k) -> x.remove(0, k, NO_KEY)),
            new Open("name, key wrong", (x, k) -> x.name(0, k, NO_KEY)),
            new Open("reference, key wrong", (x, k) -> x.reference(0, k, NO_KEY)),
            new Open("rowName, key wrong", (x, k) -> x.rowName(k, NO_KEY)),
            new Open("rowReference, key wrong", (x, k) -> x.rowReference(k, NO_KEY)),
            new Open("rowVersion, key wrong", (x, k) -> x.rowVersion(k, NO_KEY)),
        };
        int[] good = {0, 1};
        int[] bad = {-1, 2, LOWEST, HIGHEST};
        for (Open open : alone) {
            range(open, good, bad, "argument");
        }
        for (Open open : withKeyWrong) {
            range(open, new int[0], bad, "argument");
        }
    }

    private static final int[] NAMES = {0, 1, 999, 1000};
    private static final int[] NO_NAMES = {-1, 1001, LOWEST, HIGHEST};

    // Promise 2, "name: 0 to 1000".
    private static void namesOfMadeAuthors() {
        range(new Open("makeAuthor", (x, n) -> x.makeAuthor(0, n)), NAMES, NO_NAMES, "argument");
        for (int name : NAMES) {
            ObjectMapper x = new ObjectMapper();
            x.makeAuthor(0, name);
            Check.same("the made author's name", x.name(0, AUTHOR, 0), name);
        }
    }

    // Promise 3, "name: 0 to 1000": ahead of the author.
    private static void namesOfMadeBooks() {
        range(new Open("makeBook", (x, n) -> x.makeBook(0, n, 0)), NAMES, NO_NAMES, "argument");
        range(new Open("makeBook, author wrong", (x, n) -> x.makeBook(0, n, NO_KEY)), new int[0], NO_NAMES, "argument");
        range(new Open("makeBook, author removed", (x, n) -> x.makeBook(0, n, 1)), new int[0], NO_NAMES, "argument");
        for (int name : NAMES) {
            ObjectMapper x = new ObjectMapper();
            x.makeAuthor(0, 5);
            x.makeBook(0, name, 0);
            Check.same("the made book's name", x.name(0, BOOK, 0), name);
        }
    }

    // Promise 6, "name: 0 to 1000": ahead of the object.
    private static void namesThatAreSet() {
        for (int kind = 0; kind < 2; kind++) {
            int of = kind;
            range(new Open("setName", (x, n) -> x.setName(0, of, 0, n)), NAMES, NO_NAMES, "argument");
            range(new Open("setName, key wrong", (x, n) -> x.setName(0, of, NO_KEY, n)), new int[0], NO_NAMES, "argument");
            range(new Open("setName, removed", (x, n) -> x.setName(0, of, 1, n)), new int[0], NO_NAMES, "argument");
            range(new Open("setName, kind wrong", (x, n) -> x.setName(0, of + 2, 0, n)), new int[0], NO_NAMES, "argument");
            for (int name : NAMES) {
                ObjectMapper x = prepared();
                x.setName(0, kind, 0, name);
                Check.same("the name that was set", x.name(0, kind, 0), name);
            }
        }
    }

    /** Not known to session 0, or removed there: removed, deleted, made in another session, never made. */
    private static final int[] NOT_LIVE = {1, 2, 3, -1, -2, 5, NO_KEY, LOWEST, HIGHEST};
    private static final int[] LIVE = {0, 4};

    // Promise 3, "if the session does not know the author, or it is removed".
    private static void authorsOfMadeBooks() {
        range(new Open("makeBook of author", (x, a) -> x.makeBook(0, 5, a)), LIVE, NOT_LIVE, "state");
        refused(new Open("makeBook of a row not loaded", (x, s) -> x.makeBook(s, 5, 1)), 2, "state");
    }

    // Promise 5, "if the session does not know the author, or it is removed".
    private static void authorsWhoseBooksAreAsked() {
        range(new Open("books of author", (x, a) -> x.books(0, a)), LIVE, NOT_LIVE, "state");
        refused(new Open("books of an author that has a row, not loaded", (x, s) -> x.books(s, 1)), 2, "state");
    }

    // Promises 6 to 10, "if the session does not know the object, or it is removed".
    private static void keysOfObjects(int kind) {
        Open[] calls = {
            new Open("setName of kind " + kind, (x, key) -> x.setName(0, kind, key, 5)),
            new Open("setReference of kind " + kind, (x, key) -> x.setReference(0, kind, key, 0)),
            new Open("remove of kind " + kind, (x, key) -> x.remove(0, kind, key)),
            new Open("name of kind " + kind, (x, key) -> x.name(0, kind, key)),
            new Open("reference of kind " + kind, (x, key) -> x.reference(0, kind, key)),
        };
        for (Open call : calls) {
            range(call, LIVE, NOT_LIVE, "state");
        }
        refused(new Open("name of a row not loaded", (x, s) -> x.name(s, kind, 1)), 2, "state");
        refused(new Open("reference of a row not loaded", (x, s) -> x.reference(s, kind, 1)), 2, "state");
        refused(new Open("setName of a row not loaded", (x, s) -> x.setName(s, kind, 1, 5)), 2, "state");
        refused(new Open("remove of a row not loaded", (x, s) -> x.remove(s, kind, 1)), 2, "state");
        refused(new Open("setReference of a row not loaded", (x, s) -> x.setReference(s, kind, 1, 0)), 2, "state");
        refused(new Open("setReference to a row not loaded", (x, s) -> x.setReference(s, kind, 0, 1)), 2, "state");
    }

    // Promise 4 tells no range for the key, and no exception for a wrong one: "Returns whether there is one".
    private static void keysThatAreFound() {
        for (int kind = 0; kind < 2; kind++) {
            for (int key : LIVE) {
                Check.same("find of " + key, prepared().find(0, kind, key), true);
            }
            for (int key : NOT_LIVE) {
                ObjectMapper x = prepared();
                String before = State.of(x, KEYS);
                Check.same("find of " + key, x.find(0, kind, key), false);
                Check.same("find of " + key + " loads nothing", State.of(x, KEYS), before);
            }
        }
    }

    // Promise 7, "a key of the other kind, or NONE for an author".
    private static void favourites() {
        int[] good = {NONE, 0, 4};
        int[] bad = {1, 2, 3, -2, 5, NO_KEY, LOWEST, HIGHEST};
        range(new Open("setReference of author 0", (x, r) -> x.setReference(0, AUTHOR, 0, r)), good, bad, "state");
        range(new Open("setReference of author 4", (x, r) -> x.setReference(0, AUTHOR, 4, r)), good, bad, "state");
        int[] all = {NONE, 0, 1, 2, 3, 4, LOWEST, HIGHEST};
        range(new Open("of a removed author", (x, r) -> x.setReference(0, AUTHOR, 1, r)), new int[0], all, "state");
        range(new Open("of no author", (x, r) -> x.setReference(0, AUTHOR, NO_KEY, r)), new int[0], all, "state");
        for (int reference : good) {
            ObjectMapper x = prepared();
            x.setReference(0, AUTHOR, 0, reference);
            Check.same("the favourite that was set", x.reference(0, AUTHOR, 0), reference);
        }
    }

    // Promise 7, "reference is NONE for a book": ahead of the object.
    private static void authorsOfBooks() {
        int[] bad = {1, 2, 3, -2, 5, NO_KEY, LOWEST, HIGHEST};
        range(new Open("setReference of book 0", (x, r) -> x.setReference(0, BOOK, 0, r)), LIVE, bad, "state");
        range(new Open("setReference of book 4", (x, r) -> x.setReference(0, BOOK, 4, r)), LIVE, bad, "state");
        int[] keys = {0, 1, 2, 3, 4, -1, NO_KEY, LOWEST, HIGHEST};
        range(new Open("NONE for book", (x, key) -> x.setReference(0, BOOK, key, NONE)), new int[0], keys, "argument");
        for (int reference : LIVE) {
            ObjectMapper x = prepared();
            x.setReference(0, BOOK, 0, reference);
            Check.same("the author that was set", x.reference(0, BOOK, 0), reference);
        }
    }

    // Promises 16 to 18, "if there is no row with this key". The row of a removed object is still there.
    private static void keysOfRows() {
        int[] good = {0, 1};
        int[] bad = {2, 3, 4, 5, -1, -2, NO_KEY, LOWEST, HIGHEST};
        for (int kind = 0; kind < 2; kind++) {
            int of = kind;
            range(new Open("rowName of " + kind, (x, key) -> x.rowName(of, key)), good, bad, "index");
            range(new Open("rowReference of " + kind, (x, key) -> x.rowReference(of, key)), good, bad, "index");
            range(new Open("rowVersion of " + kind, (x, key) -> x.rowVersion(of, key)), good, bad, "index");
        }
        ObjectMapper empty = new ObjectMapper();
        Check.outside("rowName in an empty table", () -> empty.rowName(AUTHOR, 0));
        Check.outside("rowReference in an empty table", () -> empty.rowReference(BOOK, 0));
        Check.outside("rowVersion in an empty table", () -> empty.rowVersion(AUTHOR, 0));
    }

    // Promises 20 and 21, "if there is no such write": eight have been done, and none in a new mapper.
    private static void numbersOfWrites() {
        Check.same("writes", prepared().writes(), 8);
        int[] good = {0, 1, 6, 7};
        int[] bad = {-1, 8, 9, 64, LOWEST, HIGHEST};
        range(new Open("write", (x, number) -> x.write(number)), good, bad, "index");
        range(new Open("written", (x, number) -> x.written(number)), good, bad, "index");
        ObjectMapper empty = new ObjectMapper();
        for (int number = -1; number < 2; number++) {
            int asked = number;
            Check.outside("write of none", () -> empty.write(asked));
            Check.outside("written of none", () -> empty.written(asked));
        }
    }
}
