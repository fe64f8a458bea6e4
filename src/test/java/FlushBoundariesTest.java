/** The section 'Flushing', sentence by sentence, each at its boundary. */
public final class FlushBoundariesTest {
    private static final int NONE = ObjectMapper.NONE;
    private static final int AUTHOR = ObjectMapper.AUTHOR;
    private static final int BOOK = ObjectMapper.BOOK;
    private static final int KEYS = 8;

    public static void main(String[] args) {
        anObjectIsDirtyByItsName();
        anObjectIsDirtyByItsReference();
        anObjectIsDirtyAgainstItsSnapshotNotItsRow();
        anObjectWithoutSnapshotIsNotDirty();
        nothingToDoIsNoWrite();
        madeAuthorsAreInsertedByRisingKeys();
        madeBooksAreInsertedByRisingKeys();
        insertsAreOfVersionZero();
        favouriteWithARowIsInserted();
        favouriteOfThisFlushComesByAnUpdate();
        favouriteThatIsChangedInThisFlushIsThere();
        authorWithoutFavouriteIsNotUpdated();
        booksAreInsertedWithTheirAuthors();
        changedAuthorsAreUpdatedByRisingKeysWithRingsAmongThem();
        changedBooksAreUpdatedByRisingKeysBehindAuthors();
        updatesWriteNameAndReferenceAndTheNextVersion();
        deletesAreByRisingKeysBooksFirst();
        insertsComeAheadOfUpdates();
        updatesComeAheadOfDeletes();
        insertsOfBooksComeAheadOfUpdatesOfAuthors();
        dirtyAndRemovedIsUpdatedAndDeleted();
        failsIfTheRowOfADirtyObjectIsGone();
        failsIfTheRowOfARemovedObjectIsGone();
        failsIfADirtyObjectHasAnotherVersion();
        failsIfARemovedObjectHasAnotherVersion();
        failsIfAnObjectIsBothAndHasAnotherVersion();
        doesNotFailForCleanObjects();
        doesNotFailForAnObjectThatIsAsItsSnapshotAgain();
        failsIfAMadeBookRefersToNoRow();
        failsIfADirtyBookRefersToNoRow();
        failsIfAMadeAuthorRefersToNoRow();
        failsIfADirtyAuthorRefersToNoRow();
        failsIfABookThatIsNotWrittenRefersToNoRow();
        failsIfAnAuthorThatIsNotWrittenRefersToNoRow();
        failsIfACleanBookOfTheSessionRefersToNoRow();
        doesNotFailForReferencesThatAreOnlyMissingOnTheWay();
        aFlushThatFailsWritesNothing();
        aFlushThatFailedCanBeMended();
        insertedAndUpdatedObjectsHaveTheirRowsAsSnapshots();
        othersKeepTheirSnapshots();
        removedObjectsAreForgotten();
        flushIsOfOneSession();
        flushReturnsHowManyWritesAreDone();
        clearReturnsHowManyWereKnown();
        clearForgetsFlushedOrNot();
        writesOfAllSessionsAreNumbered();
        Check.end();
    }

    /** Rows of authors 0 and 1, of books 0 and 1 by author 0, and of book 2 by author 1; no session knows anything. */
    private static ObjectMapper library() {
        ObjectMapper x = new ObjectMapper();
        x.makeAuthor(0, 100);
        x.makeAuthor(0, 101);
        x.makeBook(0, 200, 0);
        x.makeBook(0, 201, 0);
        x.makeBook(0, 202, 1);
        x.flush(0);
        x.clear(0);
        return x;
    }

    private static void findAll(ObjectMapper x, int session) {
        for (int key = 0; key < KEYS; key++) {
            x.find(session, AUTHOR, key);
            x.find(session, BOOK, key);
        }
    }

    /** A library all of which session 1 knows. */
    private static ObjectMapper libraryOfOne() {
        ObjectMapper x = library();
        findAll(x, 1);
        return x;
    }

    private static void writes(String what, ObjectMapper x, int session, String due) {
        int before = x.writes();
        Check.same(what + ", flush", State.flush(x, session).equals("fails"), false);
        Check.same(what, State.writesFrom(x, before), due);
    }

    private static void fails(String what, ObjectMapper x, int session) {
        String before = State.of(x, KEYS);
        Check.badState(what, () -> x.flush(session));
        Check.same(what + ": nothing is written", State.of(x, KEYS), before);
        Check.badState(what + ", again", () -> x.flush(session));
    }

    // Another session writes a row: 0 is used for that, and knows nothing then.
    private static void rename(ObjectMapper x, int kind, int key) {
        x.find(0, kind, key);
        x.setName(0, kind, key, 999);
        x.flush(0);
        x.clear(0);
    }

    private static void delete(ObjectMapper x, int kind, int key) {
        x.find(0, kind, key);
        x.remove(0, kind, key);
        x.flush(0);
        x.clear(0);
    }

    private static void favourite(ObjectMapper x, int author, int book) {
        x.find(0, AUTHOR, author);
        x.find(0, BOOK, book);
        x.setReference(0, AUTHOR, author, book);
        x.flush(0);
        x.clear(0);
    }

    // "An object is dirty, if it has a snapshot and its name or reference is not that of the snapshot."
    private static void anObjectIsDirtyByItsName() {
        ObjectMapper x = libraryOfOne();
        x.setName(1, AUTHOR, 0, 101);
        Check.same("an author", x.dirty(1), 1);
        x.setName(1, BOOK, 0, 0);
        Check.same("and a book", x.dirty(1), 2);
        x.setName(1, AUTHOR, 0, 100);
        Check.same("the book alone", x.dirty(1), 1);
        writes("by names", x, 1, "U1");
    }

    private static void anObjectIsDirtyByItsReference() {
        ObjectMapper x = libraryOfOne();
        x.setReference(1, AUTHOR, 0, 0);
        Check.same("an author", x.dirty(1), 1);
        x.setReference(1, BOOK, 0, 1);
        Check.same("and a book", x.dirty(1), 2);
        x.setReference(1, AUTHOR, 0, NONE);
        Check.same("the book alone", x.dirty(1), 1);
        writes("by references", x, 1, "U1");
        x.setReference(1, AUTHOR, 0, 0);
        x.flush(1);
        x.setReference(1, AUTHOR, 0, NONE);
        Check.same("an author that loses its favourite", x.dirty(1), 1);
        x.setReference(1, AUTHOR, 0, 1);
        Check.same("or gets another one", x.dirty(1), 1);
    }

    private static void anObjectIsDirtyAgainstItsSnapshotNotItsRow() {
        ObjectMapper x = libraryOfOne();
        rename(x, AUTHOR, 0);
        Check.same("the row is another, the snapshot is not", x.dirty(1), 0);
        writes("not written", x, 1, "");
        x.setName(1, AUTHOR, 0, 999);
        Check.same("as the row, but not as the snapshot", x.dirty(1), 1);
        fails("so it is written, and clashes", x, 1);
    }

    private static void anObjectWithoutSnapshotIsNotDirty() {
        ObjectMapper x = libraryOfOne();
        x.makeAuthor(1, 5);
        x.makeBook(1, 6, 2);
        x.setName(1, AUTHOR, 2, 7);
        x.setReference(1, BOOK, 3, 0);
        x.setReference(1, AUTHOR, 2, 0);
        Check.same("made and changed", x.dirty(1), 0);
        writes("inserted as they are", x, 1, "I4 I7");
        Check.same("author", State.row(x, AUTHOR, 2), "7 0 0");
        Check.same("book", State.row(x, BOOK, 3), "6 0 0");
    }

    private static void nothingToDoIsNoWrite() {
        ObjectMapper x = libraryOfOne();
        writes("a session that knows all, unchanged", x, 1, "");
        writes("a session that knows nothing", x, 2, "");
        x.setName(1, AUTHOR, 0, 100);
        x.setReference(1, BOOK, 0, 0);
        writes("set to what it was", x, 1, "");
        Check.same("no version moves", State.row(x, AUTHOR, 0) + ", " + State.row(x, BOOK, 0), "100 -1 0, 200 0 0");
    }

    // "1. rows of authors that were made are inserted, by rising keys"
    private static void madeAuthorsAreInsertedByRisingKeys() {
        ObjectMapper x = new ObjectMapper();
        for (int i = 0; i < 6; i++) {
            x.makeAuthor(i % 2, i);
        }
        x.setName(1, AUTHOR, 5, 50);
        x.setName(1, AUTHOR, 1, 10);
        writes("every second", x, 1, "I2 I6 I10");
        writes("then the others", x, 0, "I0 I4 I8");
    }

    // "2. rows of books that were made are inserted likewise"
    private static void madeBooksAreInsertedByRisingKeys() {
        ObjectMapper x = library();
        x.find(1, AUTHOR, 0);
        x.find(2, AUTHOR, 1);
        for (int i = 0; i < 6; i++) {
            x.makeBook(1 + i % 2, i, i % 2);
        }
        writes("every second", x, 2, "I9 I13 I17");
        writes("then the others", x, 1, "I7 I11 I15");
    }

    // "with the version 0"
    private static void insertsAreOfVersionZero() {
        ObjectMapper x = library();
        x.makeAuthor(1, 5);
        x.makeBook(1, 6, 2);
        x.setName(1, AUTHOR, 2, 7);
        x.setName(1, BOOK, 3, 8);
        x.flush(1);
        Check.same("author", State.row(x, AUTHOR, 2), "7 -1 0");
        Check.same("book", State.row(x, BOOK, 3), "8 2 0");
    }

    // "with their favourite, if there is a row of it now"
    private static void favouriteWithARowIsInserted() {
        ObjectMapper x = libraryOfOne();
        x.makeAuthor(1, 5);
        x.setReference(1, AUTHOR, 2, 0);
        writes("no second write", x, 1, "I4");
        Check.same("the row", State.row(x, AUTHOR, 2), "5 0 0");
        x.makeBook(1, 6, 2);
        x.flush(1);
        x.makeAuthor(1, 7);
        x.setReference(1, AUTHOR, 3, 3);
        writes("a book of an earlier flush of the same session", x, 1, "I6");
        Check.same("the row", State.row(x, AUTHOR, 3), "7 3 0");
    }

    // "otherwise without", and "those inserted without their favourite though they have one, are updated"
    private static void favouriteOfThisFlushComesByAnUpdate() {
        ObjectMapper x = libraryOfOne();
        x.makeAuthor(1, 5);
        x.makeBook(1, 6, 0);
        x.setReference(1, AUTHOR, 2, 3);
        writes("another author's book, made in this flush", x, 1, "I4 I7 U4");
        Check.same("the author", State.row(x, AUTHOR, 2), "5 3 1");
        Check.same("the book", State.row(x, BOOK, 3), "6 0 0");
        Check.same("nothing is dirty", x.dirty(1), 0);
        writes("nothing is left", x, 1, "");
    }

    private static void favouriteThatIsChangedInThisFlushIsThere() {
        ObjectMapper x = libraryOfOne();
        x.makeAuthor(1, 5);
        x.setReference(1, AUTHOR, 2, 0);
        x.setName(1, BOOK, 0, 9);
        x.setReference(1, BOOK, 0, 2);
        writes("a ring with a book that has a row", x, 1, "I4 U1");
        Check.same("the author", State.row(x, AUTHOR, 2), "5 0 0");
        Check.same("the book", State.row(x, BOOK, 0), "9 2 1");
    }

    private static void authorWithoutFavouriteIsNotUpdated() {
        ObjectMapper x = libraryOfOne();
        x.makeAuthor(1, 5);
        x.makeBook(1, 6, 2);
        x.setReference(1, AUTHOR, 2, 3);
        x.setReference(1, AUTHOR, 2, NONE);
        writes("a favourite that it had for a while", x, 1, "I4 I7");
        Check.same("the row", State.row(x, AUTHOR, 2), "5 -1 0");
    }

    // "with their authors"
    private static void booksAreInsertedWithTheirAuthors() {
        ObjectMapper x = libraryOfOne();
        x.makeAuthor(1, 5);
        x.makeBook(1, 6, 2);
        x.makeBook(1, 7, 0);
        x.makeBook(1, 8, 0);
        x.setReference(1, BOOK, 5, 2);
        writes("made authors and others", x, 1, "I4 I7 I9 I11");
        Check.same("a made author's", State.row(x, BOOK, 3), "6 2 0");
        Check.same("one of an author that has a row", State.row(x, BOOK, 4), "7 0 0");
        Check.same("one that went to the made author", State.row(x, BOOK, 5), "8 2 0");
    }

    // "3. rows of dirty authors, and of those inserted without their favourite [..], are updated, by rising keys"
    private static void changedAuthorsAreUpdatedByRisingKeysWithRingsAmongThem() {
        ObjectMapper x = new ObjectMapper();
        x.makeAuthor(0, 1);
        x.makeAuthor(1, 2);
        x.makeAuthor(0, 3);
        x.flush(0);
        x.makeBook(1, 9, 1);
        x.setReference(1, AUTHOR, 1, 0);
        x.find(1, AUTHOR, 2);
        x.find(1, AUTHOR, 0);
        x.setName(1, AUTHOR, 2, 30);
        x.setName(1, AUTHOR, 0, 10);
        writes("the ring's author stands between the dirty ones", x, 1, "I2 I1 U0 U2 U4");
    }

    // "then rows of dirty books"
    private static void changedBooksAreUpdatedByRisingKeysBehindAuthors() {
        ObjectMapper x = libraryOfOne();
        x.setName(1, BOOK, 2, 1);
        x.setName(1, BOOK, 0, 2);
        x.setName(1, AUTHOR, 1, 3);
        x.setName(1, AUTHOR, 0, 4);
        writes("set in falling order", x, 1, "U0 U2 U1 U5");
    }

    // "each gets the name and reference of the object, and its version becomes 1 more"
    private static void updatesWriteNameAndReferenceAndTheNextVersion() {
        ObjectMapper x = libraryOfOne();
        x.setName(1, AUTHOR, 0, 0);
        x.setReference(1, AUTHOR, 0, 2);
        x.setName(1, BOOK, 0, 1000);
        x.setReference(1, BOOK, 0, 1);
        x.flush(1);
        Check.same("author", State.row(x, AUTHOR, 0), "0 2 1");
        Check.same("book", State.row(x, BOOK, 0), "1000 1 1");
        x.setName(1, AUTHOR, 0, 1);
        x.setReference(1, BOOK, 0, 0);
        x.flush(1);
        Check.same("author, by its name", State.row(x, AUTHOR, 0), "1 2 2");
        Check.same("book, by its reference", State.row(x, BOOK, 0), "1000 0 2");
        x.setReference(1, AUTHOR, 0, NONE);
        x.flush(1);
        Check.same("author, by its reference", State.row(x, AUTHOR, 0), "1 -1 3");
        Check.same("the others are as they were", State.row(x, AUTHOR, 1) + ", " + State.row(x, BOOK, 1), "101 -1 0, 201 0 0");
    }

    // "4. rows of removed books are deleted, by rising keys, then rows of removed authors"
    private static void deletesAreByRisingKeysBooksFirst() {
        ObjectMapper x = libraryOfOne();
        x.remove(1, AUTHOR, 1);
        x.remove(1, BOOK, 1);
        x.remove(1, AUTHOR, 0);
        writes("removed in falling order", x, 1, "D1 D3 D5 D0 D2");
        Check.same("no rows", x.rows(AUTHOR) + x.rows(BOOK), 0);
    }

    private static void insertsComeAheadOfUpdates() {
        ObjectMapper x = libraryOfOne();
        x.setName(1, AUTHOR, 0, 1);
        x.setName(1, BOOK, 0, 1);
        x.makeBook(1, 5, 0);
        x.makeAuthor(1, 6);
        writes("authors, books, authors, books", x, 1, "I4 I7 U0 U1");
    }

    private static void updatesComeAheadOfDeletes() {
        ObjectMapper x = libraryOfOne();
        x.remove(1, BOOK, 0);
        x.remove(1, AUTHOR, 1);
        x.setName(1, AUTHOR, 0, 1);
        x.setName(1, BOOK, 1, 1);
        writes("authors, books, books, authors", x, 1, "U0 U3 D1 D5 D2");
    }

    private static void insertsOfBooksComeAheadOfUpdatesOfAuthors() {
        ObjectMapper x = libraryOfOne();
        x.makeBook(1, 5, 0);
        x.setReference(1, AUTHOR, 1, 3);
        writes("a dirty author whose favourite is made in this flush", x, 1, "I7 U2");
        Check.same("the author", State.row(x, AUTHOR, 1), "101 3 1");
    }

    // Step 3 says "dirty" alone, where promise 12 says "dirty and not removed".
    private static void dirtyAndRemovedIsUpdatedAndDeleted() {
        ObjectMapper x = libraryOfOne();
        x.setName(1, AUTHOR, 1, 5);
        x.setName(1, BOOK, 0, 6);
        x.remove(1, AUTHOR, 1);
        x.remove(1, BOOK, 0);
        Check.same("none is dirty and not removed", x.dirty(1), 0);
        writes("both writes", x, 1, "U2 U1 D1 D5 D2");
    }

    // "If the row of a dirty [..] object is not there"
    private static void failsIfTheRowOfADirtyObjectIsGone() {
        ObjectMapper x = libraryOfOne();
        delete(x, BOOK, 0);
        x.setName(1, BOOK, 0, 5);
        fails("a book", x, 1);
        ObjectMapper y = libraryOfOne();
        delete(y, AUTHOR, 1);
        y.setName(1, AUTHOR, 1, 5);
        fails("an author", y, 1);
    }

    // "or removed object is not there"
    private static void failsIfTheRowOfARemovedObjectIsGone() {
        ObjectMapper x = libraryOfOne();
        delete(x, BOOK, 0);
        x.remove(1, BOOK, 0);
        fails("a book", x, 1);
        ObjectMapper y = library();
        y.find(1, AUTHOR, 1);
        delete(y, AUTHOR, 1);
        Check.same("its book is gone too", y.remove(1, AUTHOR, 1), 1);
        fails("an author", y, 1);
    }

    // "or has another version than its snapshot"
    private static void failsIfADirtyObjectHasAnotherVersion() {
        ObjectMapper x = libraryOfOne();
        rename(x, BOOK, 0);
        x.setName(1, BOOK, 0, 5);
        fails("a book", x, 1);
        ObjectMapper y = libraryOfOne();
        rename(y, AUTHOR, 0);
        y.setReference(1, AUTHOR, 0, 1);
        fails("an author", y, 1);
    }

    private static void failsIfARemovedObjectHasAnotherVersion() {
        ObjectMapper x = libraryOfOne();
        rename(x, BOOK, 0);
        x.remove(1, BOOK, 0);
        fails("a book", x, 1);
        ObjectMapper y = libraryOfOne();
        rename(y, AUTHOR, 0);
        y.remove(1, AUTHOR, 0);
        fails("an author", y, 1);
    }

    private static void failsIfAnObjectIsBothAndHasAnotherVersion() {
        ObjectMapper x = libraryOfOne();
        x.setName(1, BOOK, 0, 5);
        rename(x, BOOK, 0);
        x.remove(1, BOOK, 0);
        fails("dirty and removed", x, 1);
    }

    private static void doesNotFailForCleanObjects() {
        ObjectMapper x = libraryOfOne();
        rename(x, AUTHOR, 0);
        rename(x, BOOK, 0);
        delete(x, AUTHOR, 1);
        x.setName(1, BOOK, 1, 5);
        writes("others' rows are gone or have another version", x, 1, "U3");
    }

    private static void doesNotFailForAnObjectThatIsAsItsSnapshotAgain() {
        ObjectMapper x = libraryOfOne();
        x.setName(1, BOOK, 0, 5);
        x.setReference(1, BOOK, 1, 1);
        rename(x, BOOK, 0);
        rename(x, BOOK, 1);
        x.setName(1, AUTHOR, 0, 6);
        fails("two clash", x, 1);
        x.setName(1, BOOK, 0, 200);
        fails("one clashes", x, 1);
        x.setReference(1, BOOK, 1, 0);
        writes("both are as their snapshots", x, 1, "U0");
    }

    // "or if behind all writes a reference in some row, written by this flush [..], would be to a row that is not there"
    private static void failsIfAMadeBookRefersToNoRow() {
        ObjectMapper x = libraryOfOne();
        delete(x, AUTHOR, 1);
        x.makeBook(1, 5, 1);
        fails("its author is gone", x, 1);
        x.setReference(1, BOOK, 3, 0);
        writes("with another", x, 1, "I7");
    }

    private static void failsIfADirtyBookRefersToNoRow() {
        ObjectMapper x = libraryOfOne();
        delete(x, AUTHOR, 1);
        x.setReference(1, BOOK, 0, 1);
        fails("its author is gone", x, 1);
        x.setReference(1, BOOK, 0, 0);
        writes("as it was", x, 1, "");
    }

    private static void failsIfAMadeAuthorRefersToNoRow() {
        ObjectMapper x = libraryOfOne();
        delete(x, BOOK, 0);
        x.makeAuthor(1, 5);
        x.setReference(1, AUTHOR, 2, 0);
        fails("its favourite is gone", x, 1);
        x.setReference(1, AUTHOR, 2, NONE);
        writes("without", x, 1, "I4");
    }

    private static void failsIfADirtyAuthorRefersToNoRow() {
        ObjectMapper x = libraryOfOne();
        delete(x, BOOK, 0);
        x.setReference(1, AUTHOR, 1, 0);
        fails("its favourite is gone", x, 1);
        x.setReference(1, AUTHOR, 1, 1);
        writes("with another", x, 1, "U2");
    }

    // "or not"
    private static void failsIfABookThatIsNotWrittenRefersToNoRow() {
        ObjectMapper x = libraryOfOne();
        x.remove(1, AUTHOR, 1);
        x.find(2, AUTHOR, 1);
        x.makeBook(2, 5, 1);
        x.flush(2);
        fails("a book that the session does not know", x, 1);
        delete(x, BOOK, 3);
        writes("when it is gone", x, 1, "D5 D2");
    }

    private static void failsIfAnAuthorThatIsNotWrittenRefersToNoRow() {
        ObjectMapper x = library();
        x.find(1, BOOK, 0);
        x.remove(1, BOOK, 0);
        favourite(x, 1, 0);
        fails("an author that the session does not know", x, 1);
        Check.same("nor knows by that", x.known(1), 0);
        favourite(x, 1, 1);
        writes("when it has another favourite", x, 1, "D1");
    }

    private static void failsIfACleanBookOfTheSessionRefersToNoRow() {
        ObjectMapper x = library();
        x.find(1, AUTHOR, 1);
        x.remove(1, AUTHOR, 1);
        x.find(2, BOOK, 0);
        x.find(2, AUTHOR, 1);
        x.setReference(2, BOOK, 0, 1);
        x.flush(2);
        x.find(1, BOOK, 0);
        Check.same("the book came by find, with the removed author", State.object(x, 1, BOOK, 0), "200 1");
        fails("it is not removed, and would refer to nobody", x, 1);
        x.find(1, AUTHOR, 0);
        x.setReference(1, BOOK, 0, 0);
        writes("with another author", x, 1, "U1 D5 D2");
    }

    // "behind all writes": not between them
    private static void doesNotFailForReferencesThatAreOnlyMissingOnTheWay() {
        ObjectMapper x = libraryOfOne();
        favourite(x, 0, 2);
        x.clear(1);
        findAll(x, 1);
        x.makeAuthor(1, 5);
        x.setReference(1, BOOK, 2, 2);
        x.remove(1, AUTHOR, 1);
        writes("a book changes to a made author, its old one goes", x, 1, "I4 U5 D2");
        x.setReference(1, BOOK, 0, 2);
        x.remove(1, AUTHOR, 2);
        Check.same("the favourite went with its new author", x.reference(1, AUTHOR, 0), NONE);
        writes("a removed book's new author goes with it", x, 1, "U0 U1 D1 D5 D4");
    }

    // "all or nothing", "the flush fails: nothing is written"
    private static void aFlushThatFailsWritesNothing() {
        ObjectMapper x = mixed();
        String before = State.of(x, KEYS);
        fails("one clash among all kinds of writes", x, 1);
        Check.same("it is all as it was", State.of(x, KEYS), before);
        Check.same("what shows later too", State.afterwards(x, KEYS), State.afterwards(mixed(), KEYS));
    }

    private static ObjectMapper mixed() {
        ObjectMapper x = libraryOfOne();
        x.makeAuthor(1, 5);
        x.makeBook(1, 6, 2);
        x.setReference(1, AUTHOR, 2, 3);
        x.setName(1, AUTHOR, 0, 7);
        x.setName(1, BOOK, 0, 8);
        x.remove(1, AUTHOR, 1);
        x.setName(1, BOOK, 1, 9);
        rename(x, BOOK, 1);
        return x;
    }

    private static void aFlushThatFailedCanBeMended() {
        ObjectMapper x = mixed();
        fails("one clash", x, 1);
        x.setName(1, BOOK, 1, 201);
        writes("all the others are done then", x, 1, "I4 I7 U0 U4 U1 D5 D2");
        Check.same("the ring's author", State.row(x, AUTHOR, 2), "5 3 1");
        Check.same("the book of the other session", State.row(x, BOOK, 1), "999 0 1");
    }

    // "the objects whose rows were inserted or updated have these rows as snapshots then"
    private static void insertedAndUpdatedObjectsHaveTheirRowsAsSnapshots() {
        ObjectMapper x = libraryOfOne();
        x.makeAuthor(1, 5);
        x.makeBook(1, 6, 2);
        x.setReference(1, AUTHOR, 2, 3);
        x.setName(1, AUTHOR, 0, 7);
        x.setReference(1, BOOK, 0, 1);
        x.flush(1);
        Check.same("nothing is dirty", x.dirty(1), 0);
        x.setName(1, AUTHOR, 2, 50);
        x.setName(1, BOOK, 3, 60);
        x.setName(1, AUTHOR, 0, 100);
        x.setReference(1, BOOK, 0, 0);
        Check.same("four are not as their new snapshots", x.dirty(1), 4);
        writes("and the versions are the new ones", x, 1, "U0 U4 U1 U7");
        Check.same("versions", x.rowVersion(AUTHOR, 2) + 10 * x.rowVersion(BOOK, 3) + 100 * x.rowVersion(AUTHOR, 0), 212);
    }

    // "others keep theirs"
    private static void othersKeepTheirSnapshots() {
        ObjectMapper x = libraryOfOne();
        rename(x, AUTHOR, 0);
        x.setName(1, BOOK, 0, 5);
        writes("a book alone", x, 1, "U1");
        Check.same("the author is not loaded anew", x.name(1, AUTHOR, 0), 100);
        x.setName(1, AUTHOR, 0, 999);
        Check.same("nor its snapshot", x.dirty(1), 1);
        fails("nor its version", x, 1);
        x.find(2, BOOK, 1);
        x.setName(2, BOOK, 1, 6);
        x.setName(1, AUTHOR, 0, 100);
        x.setName(1, BOOK, 1, 7);
        writes("the other session's objects have snapshots of their own", x, 1, "U3");
        fails("which clash", x, 2);
    }

    // "and removed ones are forgotten"
    private static void removedObjectsAreForgotten() {
        ObjectMapper x = libraryOfOne();
        x.remove(1, AUTHOR, 1);
        writes("deletes", x, 1, "D5 D2");
        writes("not twice", x, 1, "");
        Check.same("what stays known", x.known(1), 3);
        Check.same("clear", x.clear(1), 3);
        Check.same("no row, no object", x.find(1, AUTHOR, 1) || x.find(1, BOOK, 2), false);
    }

    private static void flushIsOfOneSession() {
        ObjectMapper x = libraryOfOne();
        x.setName(1, AUTHOR, 0, 5);
        x.makeAuthor(1, 6);
        findAll(x, 2);
        x.remove(2, BOOK, 0);
        x.makeAuthor(2, 7);
        writes("session 0 has nothing to do", x, 0, "");
        writes("session 2 has its own", x, 2, "I6 D1");
        Check.same("session 1 is as it was", x.dirty(1) + 10 * x.known(1), 61);
        writes("session 1 has its own", x, 1, "I4 U0");
    }

    // Promise 13, "Returns how many writes are done."
    private static void flushReturnsHowManyWritesAreDone() {
        ObjectMapper x = library();
        Check.same("none", x.flush(1), 0);
        x.makeAuthor(1, 5);
        Check.same("one insert", x.flush(1), 1);
        x.makeBook(1, 6, 2);
        x.setReference(1, AUTHOR, 2, 3);
        Check.same("an insert and an update", x.flush(1), 2);
        x.makeAuthor(1, 7);
        x.makeBook(1, 8, 3);
        x.setReference(1, AUTHOR, 3, 4);
        x.remove(1, AUTHOR, 2);
        Check.same("two inserts, an update, two deletes", x.flush(1), 5);
        Check.same("in all", x.writes(), 5 + 1 + 2 + 5);
    }

    // Promise 14, "Returns how many it knew that were not removed."
    private static void clearReturnsHowManyWereKnown() {
        ObjectMapper x = libraryOfOne();
        x.makeAuthor(1, 5);
        x.makeBook(1, 6, 2);
        x.makeAuthor(1, 7);
        x.remove(1, AUTHOR, 3);
        x.remove(1, AUTHOR, 1);
        Check.same("two authors and a book removed, one author forgotten", x.clear(1), 5);
        Check.same("again", x.clear(1), 0);
        Check.same("a session that knows nothing", x.clear(2), 0);
    }

    // Promise 14, "Lets a session forget all of its objects, flushed or not."
    private static void clearForgetsFlushedOrNot() {
        ObjectMapper x = libraryOfOne();
        findAll(x, 2);
        x.setName(2, AUTHOR, 0, 4);
        x.makeAuthor(1, 5);
        x.makeBook(1, 6, 2);
        x.setName(1, AUTHOR, 0, 7);
        x.remove(1, BOOK, 0);
        x.clear(1);
        Check.same("known", x.known(1), 0);
        Check.same("dirty", x.dirty(1), 0);
        Check.badState("name", () -> x.name(1, AUTHOR, 0));
        Check.same("what had no row is lost", x.find(1, AUTHOR, 2) || x.find(1, BOOK, 3), false);
        writes("nothing is to be written", x, 1, "");
        findAll(x, 1);
        Check.same("rows are loaded again", x.known(1), 5);
        Check.same("as they are", State.object(x, 1, AUTHOR, 0) + ", " + State.object(x, 1, BOOK, 0), "100 -1, 200 0");
        Check.same("the other session keeps its own", x.dirty(2) + 10 * x.known(2), 51);
    }

    // "Writes of all sessions are numbered from 0 in the order in which they were done."
    private static void writesOfAllSessionsAreNumbered() {
        ObjectMapper x = new ObjectMapper();
        x.makeAuthor(0, 1);
        x.makeAuthor(2, 2);
        x.makeAuthor(1, 3);
        x.flush(2);
        x.flush(1);
        x.flush(0);
        x.setName(2, AUTHOR, 1, 9);
        x.remove(0, AUTHOR, 0);
        x.flush(0);
        x.flush(2);
        Check.same("all", State.writesFrom(x, 0), "I2 I4 I0 D0 U2");
        Check.same("the first", x.written(0), 2);
        x.clear(0);
        x.clear(2);
        Check.same("they stay", State.writesFrom(x, 0), "I2 I4 I0 D0 U2");
    }
}
