/** The largest runs of 512 calls, and calls behind them: nothing but the document's exceptions is ever thrown. */
public final class LimitsTest {
    private static final int NONE = ObjectMapper.NONE;
    private static final int AUTHOR = ObjectMapper.AUTHOR;
    private static final int BOOK = ObjectMapper.BOOK;

    public static void main(String[] args) {
        onlyAuthors();
        only512Authors();
        only511Books();
        theLastCallIsAFlush();
        theLastCallIsAWrite();
        refusedCallsUpToTheLast();
        oneAuthorWithManyBooks();
        manyRings();
        manyAuthorsWithOneFavourite();
        behindTheLastCall();
        Check.end();
    }

    private static void onlyAuthors() {
        ObjectMapper x = new ObjectMapper();
        for (int i = 0; i < 510; i++) {
            Check.same("author", x.makeAuthor(i % 3, i), i);
        }
        Check.same("a third of them", x.flush(1), 170);
        Check.same("the last", x.written(169), 2 * 508);
    }

    // "An object is used for at most 512 calls": each of them may make an object.
    private static void only512Authors() {
        ObjectMapper x = new ObjectMapper();
        for (int i = 0; i < 512; i++) {
            Check.same("author", x.makeAuthor(i % 3, 1000), i);
        }
    }

    private static void only511Books() {
        ObjectMapper x = new ObjectMapper();
        x.makeAuthor(2, 0);
        for (int i = 0; i < 511; i++) {
            Check.same("book", x.makeBook(2, 1000, 0), i);
        }
    }

    private static void theLastCallIsAFlush() {
        ObjectMapper x = new ObjectMapper();
        for (int i = 0; i < 511; i++) {
            x.makeAuthor(0, i);
        }
        Check.same("call 512", x.flush(0), 511);
        ObjectMapper y = new ObjectMapper();
        for (int i = 0; i < 255; i++) {
            y.makeAuthor(1, i);
        }
        y.makeBook(1, 0, 0);
        for (int i = 0; i < 255; i++) {
            y.setReference(1, AUTHOR, i, 0);
        }
        Check.same("call 512, with a second write for each author", y.flush(1), 255 + 1 + 255);
    }

    // Two writes for a call are about the most: a book is made by one, and goes with its author.
    private static void theLastCallIsAWrite() {
        ObjectMapper x = new ObjectMapper();
        x.makeAuthor(0, 1);
        for (int i = 0; i < 507; i++) {
            x.makeBook(0, i, 0);
        }
        Check.same("inserts", x.flush(0), 508);
        Check.same("removed", x.remove(0, AUTHOR, 0), 508);
        Check.same("deletes", x.flush(0), 508);
        Check.same("call 512", x.written(1015), 0);
    }

    private static void refusedCallsUpToTheLast() {
        ObjectMapper x = new ObjectMapper();
        for (int i = 0; i < 127; i++) {
            Check.badArgument("a name that is too large", () -> x.makeAuthor(0, 1001));
            Check.badState("no author", () -> x.makeBook(0, 5, 0));
            Check.noSession("no session", () -> x.flush(3));
            Check.same("nothing is found", x.find(0, AUTHOR, i), false);
        }
        Check.same("the first key is free still", x.makeAuthor(0, 5), 0);
        Check.same("and the first book's", x.makeBook(0, 5, 0), 0);
        Check.same("writes", x.flush(0), 2);
    }

    private static void oneAuthorWithManyBooks() {
        ObjectMapper x = new ObjectMapper();
        x.makeAuthor(0, 1);
        for (int i = 0; i < 500; i++) {
            Check.same("book", x.makeBook(0, i, 0), i);
        }
        Check.same("inserts", x.flush(0), 501);
        x.find(1, AUTHOR, 0);
        Check.same("books that are loaded", x.books(1, 0), 500);
        Check.same("removes", x.remove(1, AUTHOR, 0), 501);
        Check.same("deletes", x.flush(1), 501);
        Check.same("writes", x.writes(), 1002);
        Check.same("the last write", x.written(1001), 0);
        Check.same("no rows", x.rows(AUTHOR) + x.rows(BOOK), 0);
    }

    private static void manyRings() {
        ObjectMapper x = new ObjectMapper();
        for (int i = 0; i < 165; i++) {
            x.makeAuthor(2, i);
            x.makeBook(2, i, i);
            x.setReference(2, AUTHOR, i, i);
        }
        Check.same("inserts and updates", x.flush(2), 3 * 165);
        Check.same("the last update", x.written(494), 2 * 164);
        x.remove(2, AUTHOR, 7);
        Check.same("two deletes", x.flush(2), 2);
    }

    private static void manyAuthorsWithOneFavourite() {
        ObjectMapper x = new ObjectMapper();
        x.makeAuthor(0, 1);
        x.makeBook(0, 1, 0);
        for (int key = 1; key < 250; key++) {
            x.makeAuthor(0, key);
            x.setReference(0, AUTHOR, key, 0);
        }
        Check.same("inserts and updates", x.flush(0), 250 + 1 + 249);
        x.find(1, BOOK, 0);
        Check.same("a book", x.remove(1, BOOK, 0), 1);
        Check.same("loads 249 authors", x.known(1), 249);
        Check.same("all are dirty", x.dirty(1), 249);
        Check.same("updates and a delete", x.flush(1), 250);
        Check.same("no favourite", x.rowReference(AUTHOR, 249), NONE);
    }

    // What is answered is free there; that nothing else is thrown is not.
    private static void behindTheLastCall() {
        ObjectMapper x = new ObjectMapper();
        for (int i = 0; i < 2000; i++) {
            int author = i % 700;
            guarded(() -> x.makeAuthor(0, author));
            guarded(() -> x.makeBook(0, author, author));
            guarded(() -> x.setReference(0, AUTHOR, author, author));
            guarded(() -> x.setName(0, BOOK, author, author));
            guarded(() -> x.flush(0));
            guarded(() -> x.find(1, AUTHOR, author));
            guarded(() -> x.books(1, author));
            guarded(() -> x.remove(1, BOOK, author - 1));
            guarded(() -> x.flush(1));
        }
        for (int number = -1; number <= x.writes(); number++) {
            int asked = number;
            guarded(() -> x.write(asked));
            guarded(() -> x.written(asked));
        }
        Check.same("keys are limited", x.rows(AUTHOR) <= 512, true);
        Check.same("writes are limited", x.writes() <= 8192, true);
    }

    private static void guarded(Check.Call call) {
        try {
            call.run();
        } catch (RuntimeException e) {
            Class<?> type = e.getClass();
            if (type != IndexOutOfBoundsException.class && type != IllegalArgumentException.class
                    && type != IllegalStateException.class) {
                Check.fault("thrown behind the last call: " + e);
            }
        }
    }
}
