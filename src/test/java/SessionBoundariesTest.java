/** The sections 'Tables' and 'Sessions', sentence by sentence, each at its boundary. */
public final class SessionBoundariesTest {
    private static final int NONE = ObjectMapper.NONE;
    private static final int AUTHOR = ObjectMapper.AUTHOR;
    private static final int BOOK = ObjectMapper.BOOK;
    private static final int KEYS = 8;

    public static void main(String[] args) {
        keysAreNumberedFromZeroForEachKind();
        keysAreNumberedInWhicheverSession();
        keysOfForgottenObjectsAreNotUsedAgain();
        keysOfDeletedRowsAreNotUsedAgain();
        keysAreNotTakenByRefusedCalls();
        referencesAreOfTheOtherKind();
        thereIsOneObjectForEachRow();
        anObjectIsLoadedByFindAsTheRowIsThen();
        anObjectIsLoadedByBooksAsTheRowIsThen();
        anObjectIsLoadedByRemoveAsTheRowIsThen();
        anObjectDoesNotChangeWhenTheRowDoes();
        anObjectStaysWhenTheRowIsDeleted();
        anObjectMadeHasNoSnapshot();
        anObjectMadeHasNoRow();
        aRemovedObjectIsNotAskedAbout();
        aRemovedBookStaysKnown();
        aRemovedAuthorStaysKnown();
        aRemovedBookKeepsItsSnapshot();
        aRemovedAuthorKeepsItsSnapshot();
        aRemovedObjectIsForgottenByFlushAndClear();
        removingAnAuthorLoadsItsBooksAlone();
        removingAnAuthorLeavesKnownBooksAsTheyAre();
        removingAnAuthorTakesBooksThatReferToItInTheSessionAlone();
        removingAnAuthorTakesABookWhoseRowIsGone();
        removingAnAuthorDoesNotCountRemovedBooks();
        removingAnAuthorWithoutBooks();
        removingABookLoadsItsAuthorsAlone();
        removingABookLoadsAuthorsWhenItGoesWithItsAuthor();
        removingABookTakesReferencesThatTheSessionAloneHas();
        removingABookLeavesOtherReferences();
        removingABookReachesTheLastOfManyAuthors();
        removingABookLeavesNoReferenceInMadeAuthors();
        removingABookLeavesTheReferenceOfRemovedAuthors();
        removedMadeObjectsAreForgottenAtOnce();
        removedMadeBooksAreForgottenWithALoadedAuthor();
        removedMadeAuthorTakesLoadedBooks();
        flushedObjectsAreNotForgottenAtOnce();
        Check.end();
    }

    /** Rows of authors 0 and 1, of books 0 and 1 by author 0, and of book 2 by author 1; no session knows anything. */
    private static ObjectMapper library() {
        ObjectMapper x = new ObjectMapper();
        x.makeAuthor(0, 100);
        x.makeAuthor(0, 101);
        x.makeBook(0, 200, 0);
        x.makeBook(0, 201, 0);
        x.makeBook(0, 202, 1);
        x.flush(0);
        x.clear(0);
        return x;
    }

    private static void favourite(ObjectMapper x, int author, int book) {
        x.find(0, AUTHOR, author);
        x.find(0, BOOK, book);
        x.setReference(0, AUTHOR, author, book);
        x.flush(0);
        x.clear(0);
    }

    private static void name(ObjectMapper x, int kind, int key, int name) {
        x.find(0, kind, key);
        x.setName(0, kind, key, name);
        x.flush(0);
        x.clear(0);
    }

    private static void flushed(String what, ObjectMapper x, int session, String writes) {
        int before = x.writes();
        Check.same(what + ", flush", State.flush(x, session).equals("fails"), false);
        Check.same(what, State.writesFrom(x, before), writes);
    }

    // "Keys are numbered from 0 for each kind, in the order in which objects are made"
    private static void keysAreNumberedFromZeroForEachKind() {
        ObjectMapper x = new ObjectMapper();
        Check.same("author", x.makeAuthor(0, 5), 0);
        Check.same("author", x.makeAuthor(0, 5), 1);
        Check.same("book", x.makeBook(0, 5, 1), 0);
        Check.same("author", x.makeAuthor(0, 5), 2);
        Check.same("book", x.makeBook(0, 5, 0), 1);
    }

    // "in whichever session"
    private static void keysAreNumberedInWhicheverSession() {
        ObjectMapper x = new ObjectMapper();
        for (int i = 0; i < 6; i++) {
            Check.same("author", x.makeAuthor(2 - i % 3, i), i);
        }
        for (int i = 0; i < 6; i++) {
            Check.same("book", x.makeBook(2 - i % 3, i, i), i);
        }
    }

    // "and are never used again", though the object is gone before it was flushed
    private static void keysOfForgottenObjectsAreNotUsedAgain() {
        ObjectMapper x = new ObjectMapper();
        x.makeAuthor(0, 1);
        x.makeBook(0, 1, 0);
        x.remove(0, AUTHOR, 0);
        Check.same("behind a removed author", x.makeAuthor(0, 1), 1);
        Check.same("behind a removed book", x.makeBook(0, 1, 1), 1);
        x.clear(0);
        Check.same("behind an author that clear forgot", x.makeAuthor(0, 1), 2);
        Check.same("behind a book that clear forgot", x.makeBook(0, 1, 2), 2);
        flushed("the last ones alone", x, 0, "I4 I5");
    }

    // "and are never used again", though the row is gone
    private static void keysOfDeletedRowsAreNotUsedAgain() {
        ObjectMapper x = library();
        x.find(1, AUTHOR, 1);
        x.remove(1, AUTHOR, 1);
        x.flush(1);
        Check.same("behind a deleted author", x.makeAuthor(1, 5), 2);
        Check.same("behind a deleted book", x.makeBook(1, 5, 2), 3);
        flushed("the new ones", x, 1, "I4 I7");
        Check.same("the old key has no row", State.row(x, AUTHOR, 1), "none");
    }

    private static void keysAreNotTakenByRefusedCalls() {
        ObjectMapper x = library();
        x.find(1, AUTHOR, 1);
        x.remove(1, AUTHOR, 1);
        Check.badArgument("a wrong name", () -> x.makeAuthor(1, 1001));
        Check.noSession("a wrong session", () -> x.makeAuthor(3, 5));
        Check.badState("a removed author", () -> x.makeBook(1, 5, 1));
        Check.same("author", x.makeAuthor(1, 5), 2);
        Check.same("book", x.makeBook(1, 5, 2), 3);
    }

    // "The reference of an author is a book, the favourite, or none; that of a book is an author."
    private static void referencesAreOfTheOtherKind() {
        ObjectMapper x = library();
        favourite(x, 0, 1);
        x.find(1, AUTHOR, 0);
        x.find(1, BOOK, 2);
        Check.same("author 0 refers to book 1", x.reference(1, AUTHOR, 0), 1);
        Check.same("book 2 refers to author 1", x.reference(1, BOOK, 2), 1);
        x.find(1, BOOK, 1);
        x.remove(1, BOOK, 1);
        Check.same("what referred to book 1 has none", x.reference(1, AUTHOR, 0), NONE);
        Check.same("what refers to author 1 stays", x.reference(1, BOOK, 2), 1);
        x.find(2, AUTHOR, 0);
        x.find(2, AUTHOR, 1);
        Check.same("author 1 has one book", x.remove(2, AUTHOR, 1), 2);
        Check.same("what refers to book 1 stays", x.reference(2, AUTHOR, 0), 1);
    }

    // "A session has, for each row that it knows, one object"
    private static void thereIsOneObjectForEachRow() {
        ObjectMapper x = library();
        x.find(1, AUTHOR, 0);
        x.setName(1, AUTHOR, 0, 7);
        x.find(1, AUTHOR, 0);
        Check.same("found twice", x.known(1), 1);
        Check.same("with the name that was set", x.name(1, AUTHOR, 0), 7);
        x.find(1, BOOK, 1);
        x.setName(1, BOOK, 1, 8);
        Check.same("its books", x.books(1, 0), 2);
        Check.same("its books again", x.books(1, 0), 2);
        Check.same("are one object each", x.known(1), 3);
        Check.same("with the name that was set", x.name(1, BOOK, 1), 8);
        x.makeAuthor(1, 9);
        x.flush(1);
        x.find(1, AUTHOR, 2);
        Check.same("a made one that was flushed", x.known(1), 4);
    }

    // "An object is loaded from its row, with name, reference and version as they are then, which are its snapshot"
    private static void anObjectIsLoadedByFindAsTheRowIsThen() {
        ObjectMapper x = library();
        favourite(x, 0, 1);
        name(x, AUTHOR, 0, 50);
        Check.same("the row", State.row(x, AUTHOR, 0), "50 1 2");
        x.find(1, AUTHOR, 0);
        Check.same("the object", State.object(x, 1, AUTHOR, 0), "50 1");
        Check.same("is as its snapshot", x.dirty(1), 0);
        x.setName(1, AUTHOR, 0, 51);
        flushed("the version is the row's", x, 1, "U0");
        Check.same("the row", State.row(x, AUTHOR, 0), "51 1 3");
    }

    private static void anObjectIsLoadedByBooksAsTheRowIsThen() {
        ObjectMapper x = library();
        x.find(1, AUTHOR, 0);
        name(x, BOOK, 0, 50);
        Check.same("two books", x.books(1, 0), 2);
        Check.same("loaded now, not with the author", State.object(x, 1, BOOK, 0), "50 0");
        x.setName(1, BOOK, 0, 51);
        flushed("the version is the row's", x, 1, "U1");
        Check.same("the row", State.row(x, BOOK, 0), "51 0 2");
    }

    private static void anObjectIsLoadedByRemoveAsTheRowIsThen() {
        ObjectMapper x = library();
        x.find(1, AUTHOR, 0);
        name(x, BOOK, 0, 50);
        favourite(x, 1, 1);
        Check.same("an author and two books", x.remove(1, AUTHOR, 0), 3);
        Check.same("author 1 is loaded", State.object(x, 1, AUTHOR, 1), "101 -1");
        flushed("the versions are the rows'", x, 1, "U2 D1 D3 D0");
        Check.same("author 1", State.row(x, AUTHOR, 1), "101 -1 2");
    }

    // "it does not change when the row does"
    private static void anObjectDoesNotChangeWhenTheRowDoes() {
        ObjectMapper x = library();
        x.find(1, AUTHOR, 0);
        x.find(1, BOOK, 0);
        name(x, AUTHOR, 0, 50);
        favourite(x, 0, 0);
        name(x, BOOK, 0, 60);
        Check.same("author", State.object(x, 1, AUTHOR, 0), "100 -1");
        Check.same("book", State.object(x, 1, BOOK, 0), "200 0");
        Check.same("the author found again", x.find(1, AUTHOR, 0), true);
        Check.same("its books", x.books(1, 0), 2);
        Check.same("author", State.object(x, 1, AUTHOR, 0), "100 -1");
        Check.same("book", State.object(x, 1, BOOK, 0), "200 0");
        Check.same("nor does its snapshot", x.dirty(1), 0);
    }

    private static void anObjectStaysWhenTheRowIsDeleted() {
        ObjectMapper x = library();
        x.find(1, AUTHOR, 1);
        x.find(1, BOOK, 2);
        x.find(2, AUTHOR, 1);
        x.remove(2, AUTHOR, 1);
        x.flush(2);
        Check.same("found as the session knows it", x.find(1, AUTHOR, 1), true);
        Check.same("known", x.known(1), 2);
        Check.same("a book without a row is counted", x.books(1, 1), 1);
        Check.same("author", State.object(x, 1, AUTHOR, 1), "101 -1");
        Check.same("nothing is dirty", x.dirty(1), 0);
        flushed("nothing is written", x, 1, "");
        Check.same("known still", x.known(1), 2);
    }

    // "An object that was made has no snapshot [..] until it is flushed."
    private static void anObjectMadeHasNoSnapshot() {
        ObjectMapper x = new ObjectMapper();
        x.makeAuthor(0, 1);
        x.makeBook(0, 2, 0);
        x.setName(0, AUTHOR, 0, 3);
        x.setReference(0, AUTHOR, 0, 0);
        x.setName(0, BOOK, 0, 4);
        Check.same("a made object is never dirty", x.dirty(0), 0);
        x.flush(0);
        x.setName(0, AUTHOR, 0, 1);
        x.setName(0, BOOK, 0, 2);
        Check.same("the flushed ones have snapshots", x.dirty(0), 2);
        x.setName(0, AUTHOR, 0, 3);
        x.setName(0, BOOK, 0, 4);
        Check.same("which are the rows", x.dirty(0), 0);
        x.setReference(0, AUTHOR, 0, NONE);
        Check.same("the favourite too, though it came by a second write", x.dirty(0), 1);
    }

    // "and no row, until it is flushed"
    private static void anObjectMadeHasNoRow() {
        ObjectMapper x = library();
        x.makeAuthor(1, 5);
        x.find(1, AUTHOR, 0);
        x.makeBook(1, 6, 0);
        Check.same("rows of authors", x.rows(AUTHOR), 2);
        Check.same("rows of books", x.rows(BOOK), 3);
        Check.same("the author's row", State.row(x, AUTHOR, 2), "none");
        Check.same("the book's row", State.row(x, BOOK, 3), "none");
        Check.same("another session finds no author", x.find(2, AUTHOR, 2), false);
        Check.same("nor a book", x.find(2, BOOK, 3), false);
        x.find(2, AUTHOR, 0);
        Check.same("nor loads the book", x.books(2, 0), 2);
        x.flush(1);
        Check.same("then it finds the author", x.find(2, AUTHOR, 2), true);
        Check.same("and loads the book", x.books(2, 0), 3);
        Check.same("rows", x.rows(AUTHOR) + x.rows(BOOK), 7);
    }

    // "An object that was removed is not asked about any more"
    private static void aRemovedObjectIsNotAskedAbout() {
        ObjectMapper x = library();
        x.find(1, AUTHOR, 0);
        x.find(1, AUTHOR, 1);
        x.find(1, BOOK, 2);
        x.setName(1, AUTHOR, 0, 7);
        x.remove(1, AUTHOR, 0);
        Check.same("the author is not found", x.find(1, AUTHOR, 0), false);
        Check.same("nor its books", x.find(1, BOOK, 0) || x.find(1, BOOK, 1), false);
        Check.same("nor known", x.known(1), 2);
        Check.same("nor dirty", x.dirty(1), 0);
        Check.badState("books", () -> x.books(1, 0));
        Check.badState("makeBook", () -> x.makeBook(1, 5, 0));
        Check.badState("name", () -> x.name(1, AUTHOR, 0));
        Check.badState("reference", () -> x.reference(1, BOOK, 1));
        Check.badState("setName", () -> x.setName(1, BOOK, 0, 5));
        Check.badState("setReference of", () -> x.setReference(1, BOOK, 0, 1));
        Check.badState("setReference to a removed author", () -> x.setReference(1, BOOK, 2, 0));
        Check.badState("setReference to a removed book", () -> x.setReference(1, AUTHOR, 1, 0));
        Check.badState("remove", () -> x.remove(1, AUTHOR, 0));
        Check.badState("remove of a book that went with it", () -> x.remove(1, BOOK, 0));
        Check.same("the other sessions do ask", x.find(2, AUTHOR, 0), true);
        Check.same("about its books too", x.books(2, 0), 2);
    }

    // "but stays known until it is flushed": so that nothing loads it again
    private static void aRemovedBookStaysKnown() {
        ObjectMapper x = library();
        x.find(1, AUTHOR, 0);
        x.find(1, BOOK, 0);
        x.remove(1, BOOK, 0);
        Check.same("find does not load it", x.find(1, BOOK, 0), false);
        Check.same("nor books", x.books(1, 0), 1);
        Check.same("nor the author's removal", x.remove(1, AUTHOR, 0), 2);
        Check.same("known", x.known(1), 0);
        flushed("each is deleted once", x, 1, "D1 D3 D0");
    }

    private static void aRemovedAuthorStaysKnown() {
        ObjectMapper x = library();
        favourite(x, 1, 0);
        x.find(1, AUTHOR, 1);
        x.remove(1, AUTHOR, 1);
        x.find(1, BOOK, 0);
        Check.same("a book alone", x.remove(1, BOOK, 0), 1);
        Check.same("does not load the removed author", x.known(1), 0);
        Check.same("nor does find", x.find(1, AUTHOR, 1), false);
        flushed("each is deleted once", x, 1, "D1 D5 D2");
    }

    // Loaded again it would have the new version, and the flush would not fail.
    private static void aRemovedBookKeepsItsSnapshot() {
        ObjectMapper x = library();
        x.find(1, AUTHOR, 0);
        x.find(1, BOOK, 0);
        x.remove(1, BOOK, 0);
        name(x, BOOK, 0, 50);
        x.find(1, BOOK, 0);
        Check.same("not loaded by find", State.flush(x, 1), "fails");
        x.books(1, 0);
        Check.same("nor by books", State.flush(x, 1), "fails");
        x.remove(1, AUTHOR, 0);
        Check.same("nor by the author's removal", State.flush(x, 1), "fails");
    }

    private static void aRemovedAuthorKeepsItsSnapshot() {
        ObjectMapper x = library();
        favourite(x, 1, 0);
        x.find(1, BOOK, 0);
        x.find(1, AUTHOR, 1);
        x.remove(1, AUTHOR, 1);
        name(x, AUTHOR, 1, 50);
        x.find(1, AUTHOR, 1);
        Check.same("not loaded by find", State.flush(x, 1), "fails");
        x.remove(1, BOOK, 0);
        Check.same("nor by the removal of its favourite", State.flush(x, 1), "fails");
    }

    private static void aRemovedObjectIsForgottenByFlushAndClear() {
        ObjectMapper x = library();
        x.find(1, BOOK, 0);
        x.remove(1, BOOK, 0);
        Check.same("clear does not count it", x.clear(1), 0);
        flushed("and lets its removal be forgotten", x, 1, "");
        Check.same("it is loaded again", x.find(1, BOOK, 0), true);
        Check.same("as its row is", State.object(x, 1, BOOK, 0), "200 0");
        x.remove(1, BOOK, 0);
        flushed("the removal", x, 1, "D1");
        Check.same("there is none any more", x.find(1, BOOK, 0), false);
        flushed("nothing is left", x, 1, "");
    }

    // "When an author is removed, the session loads all books whose rows refer to the author"
    private static void removingAnAuthorLoadsItsBooksAlone() {
        ObjectMapper x = library();
        x.find(1, AUTHOR, 0);
        Check.same("the author and its books", x.remove(1, AUTHOR, 0), 3);
        Check.same("nothing else is known", x.known(1), 0);
        flushed("they are known as removed", x, 1, "D1 D3 D0");
        Check.same("book 2 stays", State.row(x, BOOK, 2), "202 1 0");
    }

    // "as far as it does not know them"
    private static void removingAnAuthorLeavesKnownBooksAsTheyAre() {
        ObjectMapper x = library();
        x.find(1, AUTHOR, 0);
        x.find(1, AUTHOR, 1);
        x.find(1, BOOK, 0);
        x.setReference(1, BOOK, 0, 1);
        Check.same("book 0 is another's in this session", x.remove(1, AUTHOR, 0), 2);
        Check.same("it stays", State.object(x, 1, BOOK, 0), "200 1");
        flushed("its row goes to the other author", x, 1, "U1 D3 D0");
        Check.same("its row", State.row(x, BOOK, 0), "200 1 1");
    }

    // "and removes all books that it knows and that refer to the author"
    private static void removingAnAuthorTakesBooksThatReferToItInTheSessionAlone() {
        ObjectMapper x = library();
        x.find(1, AUTHOR, 0);
        x.find(1, BOOK, 2);
        x.setReference(1, BOOK, 2, 0);
        x.makeBook(1, 7, 0);
        Check.same("two by their rows, one by its object, one made", x.remove(1, AUTHOR, 0), 5);
        Check.same("nothing is known", x.known(1), 0);
        flushed("book 2 was dirty", x, 1, "U5 D1 D3 D5 D0");
    }

    private static void removingAnAuthorTakesABookWhoseRowIsGone() {
        ObjectMapper x = library();
        x.find(1, AUTHOR, 0);
        x.find(1, BOOK, 0);
        x.find(2, BOOK, 0);
        x.remove(2, BOOK, 0);
        x.flush(2);
        Check.same("the author, a loaded book, and a known one without a row", x.remove(1, AUTHOR, 0), 3);
        Check.same("which makes the flush fail", State.flush(x, 1), "fails");
        x.clear(1);
        x.find(1, AUTHOR, 0);
        Check.same("loaded anew there is one book", x.remove(1, AUTHOR, 0), 2);
        flushed("which works", x, 1, "D3 D0");
    }

    private static void removingAnAuthorDoesNotCountRemovedBooks() {
        ObjectMapper x = library();
        x.find(1, AUTHOR, 0);
        x.books(1, 0);
        x.remove(1, BOOK, 0);
        x.remove(1, BOOK, 1);
        Check.same("both books were removed already", x.remove(1, AUTHOR, 0), 1);
        flushed("each is deleted once", x, 1, "D1 D3 D0");
    }

    private static void removingAnAuthorWithoutBooks() {
        ObjectMapper x = library();
        favourite(x, 0, 2);
        x.find(1, AUTHOR, 0);
        x.find(1, AUTHOR, 1);
        x.find(1, BOOK, 2);
        x.books(1, 0);
        x.setReference(1, BOOK, 0, 1);
        x.setReference(1, BOOK, 1, 1);
        Check.same("the author alone", x.remove(1, AUTHOR, 0), 1);
        Check.same("its favourite is another's and stays", x.find(1, BOOK, 2), true);
        flushed("two updates and a delete", x, 1, "U1 U3 D0");
    }

    // "When a book is removed, also by that, the session loads all authors whose rows refer to the book"
    private static void removingABookLoadsItsAuthorsAlone() {
        ObjectMapper x = library();
        favourite(x, 1, 0);
        x.find(1, BOOK, 0);
        Check.same("the book", x.remove(1, BOOK, 0), 1);
        Check.same("one author is known", x.known(1), 1);
        Check.same("the one whose favourite it was, not the one who wrote it", State.object(x, 1, AUTHOR, 1), "101 -1");
        Check.same("dirty by that", x.dirty(1), 1);
        flushed("an update and a delete", x, 1, "U2 D1");
    }

    // "also by that"
    private static void removingABookLoadsAuthorsWhenItGoesWithItsAuthor() {
        ObjectMapper x = library();
        favourite(x, 1, 1);
        x.find(1, AUTHOR, 0);
        Check.same("author 0 and its books", x.remove(1, AUTHOR, 0), 3);
        Check.same("author 1 is loaded, its favourite taken", State.object(x, 1, AUTHOR, 1), "101 -1");
        flushed("an update and three deletes", x, 1, "U2 D1 D3 D0");
    }

    // "and takes the reference from all authors that it knows [..], if it is to this book"
    private static void removingABookTakesReferencesThatTheSessionAloneHas() {
        ObjectMapper x = library();
        favourite(x, 1, 2);
        x.find(1, AUTHOR, 0);
        x.find(1, AUTHOR, 1);
        x.find(1, BOOK, 0);
        x.setReference(1, AUTHOR, 0, 0);
        x.setReference(1, AUTHOR, 1, 0);
        x.remove(1, BOOK, 0);
        Check.same("author 0 has none", x.reference(1, AUTHOR, 0), NONE);
        Check.same("author 1 has none, and not its row's", x.reference(1, AUTHOR, 1), NONE);
        Check.same("author 0 is as its row, author 1 is not", x.dirty(1), 1);
        flushed("an update and a delete", x, 1, "U2 D1");
    }

    // "as far as it does not know them", and "if it is to this book"
    private static void removingABookLeavesOtherReferences() {
        ObjectMapper x = library();
        favourite(x, 1, 0);
        x.find(1, AUTHOR, 1);
        x.find(1, AUTHOR, 0);
        x.find(1, BOOK, 0);
        x.find(1, BOOK, 1);
        x.setReference(1, AUTHOR, 1, 1);
        x.setReference(1, AUTHOR, 0, 1);
        x.remove(1, BOOK, 0);
        Check.same("author 1 refers to another book now", x.reference(1, AUTHOR, 1), 1);
        Check.same("so does author 0", x.reference(1, AUTHOR, 0), 1);
        flushed("two updates and a delete", x, 1, "U0 U2 D1");
    }

    private static void removingABookReachesTheLastOfManyAuthors() {
        ObjectMapper x = new ObjectMapper();
        for (int key = 0; key < 5; key++) {
            x.makeAuthor(0, key);
        }
        x.makeBook(0, 9, 0);
        x.setReference(0, AUTHOR, 3, 0);
        x.setReference(0, AUTHOR, 4, 0);
        x.flush(0);
        x.find(1, BOOK, 0);
        x.remove(1, BOOK, 0);
        Check.same("two authors are loaded", x.known(1), 2);
        Check.same("the last one too", State.object(x, 1, AUTHOR, 4), "4 -1");
        flushed("two updates and a delete", x, 1, "U6 U8 D1");
    }

    private static void removingABookLeavesNoReferenceInMadeAuthors() {
        ObjectMapper x = library();
        x.find(1, BOOK, 0);
        x.makeAuthor(1, 5);
        x.setReference(1, AUTHOR, 2, 0);
        x.remove(1, BOOK, 0);
        Check.same("a made author", State.object(x, 1, AUTHOR, 2), "5 -1");
        flushed("is inserted without", x, 1, "I4 D1");
    }

    // "and that are not removed": with its reference taken, author 1 would be dirty, and its row updated
    private static void removingABookLeavesTheReferenceOfRemovedAuthors() {
        ObjectMapper x = library();
        favourite(x, 1, 0);
        x.find(1, AUTHOR, 1);
        x.find(1, BOOK, 0);
        x.remove(1, AUTHOR, 1);
        x.remove(1, BOOK, 0);
        flushed("no update", x, 1, "D1 D5 D2");
        ObjectMapper y = library();
        favourite(y, 0, 0);
        y.find(1, AUTHOR, 0);
        Check.same("an author whose favourite goes with it", y.remove(1, AUTHOR, 0), 3);
        flushed("no update", y, 1, "D1 D3 D0");
    }

    // "Removed objects that were made and not flushed are forgotten at once."
    private static void removedMadeObjectsAreForgottenAtOnce() {
        ObjectMapper x = new ObjectMapper();
        x.makeAuthor(0, 1);
        Check.same("an author", x.remove(0, AUTHOR, 0), 1);
        flushed("is not written", x, 0, "");
        x.makeAuthor(0, 2);
        x.makeBook(0, 3, 1);
        Check.same("a book", x.remove(0, BOOK, 0), 1);
        flushed("is not written", x, 0, "I2");
        x.makeAuthor(0, 4);
        x.makeBook(0, 5, 2);
        x.setReference(0, AUTHOR, 2, 1);
        Check.same("a ring", x.remove(0, AUTHOR, 2), 2);
        flushed("is not written", x, 0, "");
        Check.same("one author is known", x.known(0), 1);
        Check.same("the forgotten ones are not found", x.find(0, AUTHOR, 0) || x.find(0, BOOK, 0), false);
        Check.badState("nor removed again", () -> x.remove(0, AUTHOR, 2));
    }

    private static void removedMadeBooksAreForgottenWithALoadedAuthor() {
        ObjectMapper x = library();
        x.find(1, AUTHOR, 1);
        x.makeBook(1, 5, 1);
        x.setReference(1, AUTHOR, 1, 3);
        Check.same("the author, its book and a made one", x.remove(1, AUTHOR, 1), 3);
        flushed("the made one is not written; the author was dirty", x, 1, "U2 D5 D2");
        Check.same("rows", x.rows(AUTHOR) + x.rows(BOOK), 3);
    }

    private static void removedMadeAuthorTakesLoadedBooks() {
        ObjectMapper x = library();
        x.makeAuthor(1, 5);
        x.find(1, BOOK, 0);
        x.find(1, BOOK, 1);
        x.setReference(1, BOOK, 0, 2);
        Check.same("the author and one book", x.remove(1, AUTHOR, 2), 2);
        Check.same("the other book is known", x.known(1), 1);
        flushed("the author is not written, its book is deleted", x, 1, "U1 D1");
        Check.same("rows of books", x.rows(BOOK), 2);
    }

    // "that were made and not flushed": one that was flushed has a row to be deleted
    private static void flushedObjectsAreNotForgottenAtOnce() {
        ObjectMapper x = new ObjectMapper();
        x.makeAuthor(0, 1);
        x.makeBook(0, 2, 0);
        x.flush(0);
        x.remove(0, AUTHOR, 0);
        Check.same("the rows stay until the flush", x.rows(AUTHOR) + x.rows(BOOK), 2);
        String before = State.of(x, KEYS);
        Check.same("not loaded again", x.find(0, AUTHOR, 0) || x.find(0, BOOK, 0), false);
        Check.same("nothing changes by that", State.of(x, KEYS), before);
        flushed("deleted", x, 0, "D1 D0");
    }
}
