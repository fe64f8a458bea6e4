/** Promises 13 and 14: flushing and clearing. */
public final class FlushTest {
    private static final int NONE = ObjectMapper.NONE;
    private static final int AUTHOR = ObjectMapper.AUTHOR;
    private static final int BOOK = ObjectMapper.BOOK;
    private static final int KEYS = 12;

    public static void main(String[] args) {
        promise13Order();
        promise13RingIsBrokenByAnUpdate();
        promise13FavouriteThatIsThere();
        promise13SnapshotsBehindTheFlush();
        promise13OtherSnapshotsStay();
        promise13VersionClash();
        promise13RowThatIsGone();
        promise13RemovedClashes();
        promise13CleanObjectsDoNotClash();
        promise13DanglingWritten();
        promise13DanglingNotWritten();
        promise13DanglingFavourite();
        promise13ReferenceToRemovedThatWasLoaded();
        promise13AnotherRowSavesTheReference();
        promise13DirtyAndRemoved();
        promise13ClashBySecondUpdate();
        promise13WrongSession();
        promise14Clear();
        Check.end();
    }

    private static void flushFails(String what, ObjectMapper x, int session) {
        String before = State.of(x, KEYS);
        Check.badState(what, () -> x.flush(session));
        Check.same(what + " changes nothing", State.of(x, KEYS), before);
    }

    private static ObjectMapper authorWithTwoBooks() {
        ObjectMapper x = new ObjectMapper();
        x.makeAuthor(0, 1);
        x.makeBook(0, 10, 0);
        x.makeBook(0, 11, 0);
        x.flush(0);
        x.clear(0);
        return x;
    }

    private static void promise13Order() {
        ObjectMapper x = new ObjectMapper();
        x.makeAuthor(0, 1);
        x.makeAuthor(0, 2);
        x.makeBook(0, 10, 0);
        x.makeBook(0, 11, 1);
        x.makeBook(0, 12, 1);
        x.makeAuthor(0, 3);
        Check.same("inserts", x.flush(0), 6);
        Check.same("authors before books, by rising keys", State.writesFrom(x, 0), "I0 I2 I4 I1 I3 I5");
        x.makeAuthor(0, 4);
        x.makeBook(0, 13, 3);
        x.setReference(0, AUTHOR, 3, 3);
        x.setName(0, BOOK, 2, 20);
        x.setName(0, BOOK, 0, 21);
        x.setName(0, AUTHOR, 2, 22);
        x.setName(0, AUTHOR, 0, 23);
        x.remove(0, AUTHOR, 1);
        Check.same("all kinds of writes", x.flush(0), 2 + 3 + 1 + 1 + 3);
        Check.same("in the document's order", State.writesFrom(x, 6), "I6 I7 U0 U4 U6 U1 U5 D3 D5 D2");
        Check.same("rows of authors", x.rows(AUTHOR), 3);
        Check.same("rows of books", x.rows(BOOK), 2);
        Check.same("author 0", State.row(x, AUTHOR, 0), "23 -1 1");
        Check.same("author 3", State.row(x, AUTHOR, 3), "4 3 1");
        Check.same("book 0", State.row(x, BOOK, 0), "21 0 1");
        Check.same("book 3", State.row(x, BOOK, 3), "13 3 0");
        Check.same("book 2", State.row(x, BOOK, 2), "none");
        Check.same("nothing is left to do", x.flush(0), 0);
    }

    private static void promise13RingIsBrokenByAnUpdate() {
        ObjectMapper x = new ObjectMapper();
        x.makeAuthor(0, 1);
        x.makeBook(0, 2, 0);
        x.setReference(0, AUTHOR, 0, 0);
        Check.same("insert, insert, update", x.flush(0), 3);
        Check.same("the writes", State.writesFrom(x, 0), "I0 I1 U0");
        Check.same("the author", State.row(x, AUTHOR, 0), "1 0 1");
        Check.same("the book", State.row(x, BOOK, 0), "2 0 0");
        Check.same("the author is clean", x.dirty(0), 0);
        x.setName(0, AUTHOR, 0, 5);
        Check.same("and can be written again", x.flush(0), 1);
        Check.same("with the next version", State.row(x, AUTHOR, 0), "5 0 2");
    }

    private static void promise13FavouriteThatIsThere() {
        ObjectMapper x = authorWithTwoBooks();
        x.find(1, BOOK, 0);
        x.makeAuthor(1, 2);
        x.setReference(1, AUTHOR, 1, 0);
        Check.same("an insert alone", x.flush(1), 1);
        Check.same("with the favourite", State.row(x, AUTHOR, 1), "2 0 0");
        x.remove(1, BOOK, 0);
        x.makeAuthor(1, 3);
        Check.same("an author without a favourite", x.flush(1), 3);
        Check.same("is not updated", State.writesFrom(x, 4), "I4 U2 D1");
    }

    private static void promise13SnapshotsBehindTheFlush() {
        ObjectMapper x = authorWithTwoBooks();
        x.find(0, BOOK, 0);
        x.remove(0, BOOK, 0);
        x.flush(0);
        Check.same("a removed object is forgotten", x.find(0, BOOK, 0), false);
        Check.same("and its row is not written again", x.flush(0), 0);
        x.find(0, AUTHOR, 0);
        x.setName(0, AUTHOR, 0, 2);
        x.flush(0);
        x.setName(0, AUTHOR, 0, 1);
        Check.same("dirty against the new snapshot", x.dirty(0), 1);
        Check.same("flushes", x.flush(0), 1);
        Check.same("the row", State.row(x, AUTHOR, 0), "1 -1 2");
    }

    private static void promise13OtherSnapshotsStay() {
        ObjectMapper x = authorWithTwoBooks();
        x.find(1, AUTHOR, 0);
        x.find(1, BOOK, 0);
        x.find(2, AUTHOR, 0);
        x.setName(2, AUTHOR, 0, 50);
        x.flush(2);
        x.setName(1, BOOK, 0, 60);
        Check.same("the book is written", x.flush(1), 1);
        Check.same("the author is as it was loaded", x.name(1, AUTHOR, 0), 1);
        x.setName(1, AUTHOR, 0, 2);
        flushFails("a flush with the old version", x, 1);
    }

    private static void promise13VersionClash() {
        ObjectMapper x = authorWithTwoBooks();
        x.find(1, BOOK, 0);
        x.find(2, BOOK, 0);
        x.setName(1, BOOK, 0, 5);
        x.setName(2, BOOK, 0, 5);
        x.makeAuthor(2, 9);
        Check.same("the first", x.flush(1), 1);
        flushFails("the second", x, 2);
        x.setName(2, BOOK, 0, 10);
        Check.same("with the snapshot's name it is clean and does not clash", x.flush(2), 1);
        x.clear(2);
        x.find(2, BOOK, 0);
        x.setName(2, BOOK, 0, 6);
        Check.same("loaded again it can be written", x.flush(2), 1);
        Check.same("the row", State.row(x, BOOK, 0), "6 0 2");
    }

    private static void promise13RowThatIsGone() {
        ObjectMapper x = authorWithTwoBooks();
        x.find(1, BOOK, 0);
        x.find(2, BOOK, 0);
        x.remove(1, BOOK, 0);
        x.flush(1);
        x.setName(2, BOOK, 0, 5);
        flushFails("a dirty object without its row", x, 2);
        x.remove(2, BOOK, 0);
        flushFails("a removed object without its row", x, 2);
        Check.same("clear helps", x.clear(2), 0);
        Check.same("then nothing is to be done", x.flush(2), 0);
    }

    private static void promise13RemovedClashes() {
        ObjectMapper x = authorWithTwoBooks();
        x.find(1, BOOK, 0);
        x.find(2, BOOK, 0);
        x.setName(1, BOOK, 0, 5);
        x.flush(1);
        x.remove(2, BOOK, 0);
        flushFails("a removed object with another version", x, 2);
    }

    private static void promise13CleanObjectsDoNotClash() {
        ObjectMapper x = authorWithTwoBooks();
        x.find(1, BOOK, 0);
        x.find(1, BOOK, 1);
        x.find(2, BOOK, 0);
        x.remove(2, BOOK, 0);
        x.flush(2);
        x.setName(1, BOOK, 1, 5);
        Check.same("an unchanged object without its row is no matter", x.flush(1), 1);
        Check.same("and stays known", x.known(1), 2);
    }

    private static void promise13DanglingWritten() {
        ObjectMapper x = authorWithTwoBooks();
        x.makeAuthor(0, 2);
        x.flush(0);
        x.find(1, AUTHOR, 1);
        x.find(1, BOOK, 0);
        x.remove(0, AUTHOR, 1);
        x.flush(0);
        x.makeBook(1, 20, 1);
        flushFails("a made book, its author gone", x, 1);
        x.remove(1, BOOK, 2);
        x.setReference(1, BOOK, 0, 1);
        flushFails("a dirty book, its author gone", x, 1);
        x.makeAuthor(1, 5);
        x.setReference(1, BOOK, 0, 2);
        Check.same("an author made by this flush is there", x.flush(1), 2);
    }

    private static void promise13DanglingNotWritten() {
        ObjectMapper x = authorWithTwoBooks();
        x.find(1, AUTHOR, 0);
        x.remove(1, AUTHOR, 0);
        x.find(2, AUTHOR, 0);
        x.makeBook(2, 20, 0);
        x.flush(2);
        flushFails("a book that came behind the removal refers to the author", x, 1);
        x.clear(1);
        x.find(1, AUTHOR, 0);
        Check.same("removed again, with the new book", x.remove(1, AUTHOR, 0), 4);
        Check.same("it works", x.flush(1), 4);
    }

    private static void promise13DanglingFavourite() {
        ObjectMapper x = authorWithTwoBooks();
        x.find(1, BOOK, 0);
        x.find(1, BOOK, 1);
        x.find(2, BOOK, 0);
        x.remove(2, BOOK, 0);
        x.flush(2);
        x.makeAuthor(1, 5);
        x.setReference(1, AUTHOR, 1, 0);
        flushFails("a made author, its favourite gone", x, 1);
        x.setReference(1, AUTHOR, 1, 1);
        Check.same("with one that is there", x.flush(1), 1);
        Check.same("it is inserted at once", State.row(x, AUTHOR, 1), "5 1 0");
        x.find(2, BOOK, 1);
        x.remove(2, BOOK, 1);
        Check.same("the author is loaded, and loses its favourite", x.flush(2), 2);
    }

    private static void promise13ReferenceToRemovedThatWasLoaded() {
        ObjectMapper x = authorWithTwoBooks();
        x.find(1, BOOK, 0);
        x.remove(1, BOOK, 0);
        x.find(2, AUTHOR, 0);
        x.find(2, BOOK, 0);
        x.setReference(2, AUTHOR, 0, 0);
        x.flush(2);
        flushFails("an author's row refers to the removed book", x, 1);
        Check.same("the author can be loaded", x.find(1, AUTHOR, 0), true);
        Check.same("and refers to it", x.reference(1, AUTHOR, 0), 0);
        flushFails("which does not help", x, 1);
        x.setReference(1, AUTHOR, 0, NONE);
        Check.same("without the reference it works", x.flush(1), 2);
        Check.same("as update and delete", State.writesFrom(x, 4), "U0 D1");
    }

    private static void promise13AnotherRowSavesTheReference() {
        ObjectMapper x = authorWithTwoBooks();
        x.makeAuthor(0, 2);
        x.flush(0);
        x.find(1, AUTHOR, 0);
        x.find(1, AUTHOR, 1);
        x.books(1, 0);
        x.setReference(1, BOOK, 0, 1);
        x.setReference(1, BOOK, 1, 1);
        Check.same("an author without books", x.remove(1, AUTHOR, 0), 1);
        Check.same("is deleted behind the updates", x.flush(1), 3);
        Check.same("in this order", State.writesFrom(x, 4), "U1 U3 D0");
    }

    // By its words the document updates the rows of all dirty objects, and deletes those of the removed ones behind that.
    private static void promise13DirtyAndRemoved() {
        ObjectMapper x = authorWithTwoBooks();
        x.find(1, AUTHOR, 0);
        x.find(1, BOOK, 0);
        x.setName(1, BOOK, 0, 5);
        x.remove(1, BOOK, 0);
        Check.same("dirty and removed", x.dirty(1), 0);
        Check.same("updated and deleted", x.flush(1), 2);
        Check.same("in this order", State.writesFrom(x, 3), "U1 D1");
        x.find(1, BOOK, 1);
        x.setReference(1, AUTHOR, 0, 1);
        x.flush(1);
        Check.same("a removed author keeps its reference", x.remove(1, AUTHOR, 0), 2);
        Check.same("so it is not dirty by that", x.flush(1), 2);
        Check.same("both are deleted", State.writesFrom(x, 6), "D3 D0");
    }

    private static void promise13ClashBySecondUpdate() {
        ObjectMapper x = new ObjectMapper();
        x.makeAuthor(0, 1);
        x.makeBook(0, 2, 0);
        x.setReference(0, AUTHOR, 0, 0);
        x.flush(0);
        x.find(1, AUTHOR, 0);
        x.setName(1, AUTHOR, 0, 3);
        x.setName(0, AUTHOR, 0, 4);
        Check.same("the row has version 1 for both", x.flush(1), 1);
        flushFails("and the later one clashes", x, 0);
    }

    private static void promise13WrongSession() {
        ObjectMapper x = new ObjectMapper();
        x.makeAuthor(0, 1);
        x.makeAuthor(1, 2);
        Check.noSession("flush(3)", () -> x.flush(3));
        Check.noSession("flush(-1)", () -> x.flush(-1));
        Check.same("one session alone is flushed", x.flush(1), 1);
        Check.same("its author has the second key", State.row(x, AUTHOR, 1), "2 -1 0");
        Check.same("the first has no row", State.row(x, AUTHOR, 0), "none");
    }

    private static void promise14Clear() {
        ObjectMapper x = authorWithTwoBooks();
        x.find(1, AUTHOR, 0);
        x.books(1, 0);
        x.makeAuthor(1, 5);
        x.setName(1, AUTHOR, 0, 9);
        x.remove(1, BOOK, 0);
        x.makeAuthor(2, 6);
        Check.same("two authors and a book", x.clear(1), 3);
        Check.same("nothing is known", x.known(1), 0);
        Check.same("nothing is dirty", x.dirty(1), 0);
        Check.same("nothing is to be flushed", x.flush(1), 0);
        Check.same("the made author is gone", x.find(1, AUTHOR, 1), false);
        Check.same("the removed book can be found again", x.find(1, BOOK, 0), true);
        Check.same("the author is loaded again", x.find(1, AUTHOR, 0), true);
        Check.same("as its row is", State.object(x, 1, AUTHOR, 0), "1 -1");
        Check.same("other sessions keep theirs", x.known(2), 1);
        Check.same("cleared twice", x.clear(1) + x.clear(1), 2);
        Check.noSession("clear(3)", () -> x.clear(3));
        Check.noSession("clear(-1)", () -> x.clear(-1));
    }
}
