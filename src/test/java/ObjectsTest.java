/** Promises 1 to 12: objects of sessions. */
public final class ObjectsTest {
    private static final int NONE = ObjectMapper.NONE;
    private static final int AUTHOR = ObjectMapper.AUTHOR;
    private static final int BOOK = ObjectMapper.BOOK;

    public static void main(String[] args) {
        promise1NewObject();
        promise2MakeAuthor();
        promise3MakeBook();
        promise4Find();
        promise5Books();
        promise6SetName();
        promise7SetReference();
        promise8RemoveBook();
        promise8RemoveAuthor();
        promise8RemoveLoads();
        promise8RemoveForgetsMade();
        promise9And10NameAndReference();
        promise11Known();
        promise12Dirty();
        Check.end();
    }

    private static void promise1NewObject() {
        ObjectMapper x = new ObjectMapper();
        for (int session = 0; session < 3; session++) {
            Check.same("known of a new mapper", x.known(session), 0);
            Check.same("dirty of a new mapper", x.dirty(session), 0);
            Check.same("find in a new mapper", x.find(session, AUTHOR, 0), false);
            Check.same("flush of a new mapper", x.flush(session), 0);
            Check.same("clear of a new mapper", x.clear(session), 0);
        }
        Check.same("author rows of a new mapper", x.rows(AUTHOR), 0);
        Check.same("book rows of a new mapper", x.rows(BOOK), 0);
        Check.same("writes of a new mapper", x.writes(), 0);
        x.makeAuthor(0, 1);
        x.flush(0);
        Check.same("a second mapper shares nothing", new ObjectMapper().rows(AUTHOR), 0);
    }

    private static void promise2MakeAuthor() {
        ObjectMapper x = new ObjectMapper();
        Check.same("first author", x.makeAuthor(0, 0), 0);
        Check.same("second author, of another session", x.makeAuthor(2, 1000), 1);
        Check.same("name 0", x.name(0, AUTHOR, 0), 0);
        Check.same("name 1000", x.name(2, AUTHOR, 1), 1000);
        Check.same("no favourite", x.reference(2, AUTHOR, 1), NONE);
        Check.same("no row before the flush", x.rows(AUTHOR), 0);
        Check.same("the other session knows its own alone", x.known(0), 1);
        Check.same("a made author is not dirty", x.dirty(0), 0);
        x.remove(2, AUTHOR, 1);
        x.clear(0);
        Check.same("keys are never used again", x.makeAuthor(1, 5), 2);
        Check.noSession("makeAuthor(3, 0)", () -> x.makeAuthor(3, 0));
        Check.noSession("makeAuthor(-1, 2000)", () -> x.makeAuthor(-1, 2000));
        Check.badArgument("makeAuthor(0, -1)", () -> x.makeAuthor(0, -1));
        Check.badArgument("makeAuthor(0, 1001)", () -> x.makeAuthor(0, 1001));
        Check.same("calls that throw take no key", x.makeAuthor(1, 5), 3);
    }

    private static void promise3MakeBook() {
        ObjectMapper x = new ObjectMapper();
        x.makeAuthor(0, 1);
        x.makeAuthor(1, 2);
        Check.same("first book", x.makeBook(0, 0, 0), 0);
        Check.same("books have keys of their own, for all sessions", x.makeBook(1, 1000, 1), 1);
        Check.same("the book", State.object(x, 0, BOOK, 0), "0 0");
        Check.same("the other book", State.object(x, 1, BOOK, 1), "1000 1");
        Check.same("no row before the flush", x.rows(BOOK), 0);
        Check.same("a made book is not dirty", x.dirty(1), 0);
        Check.badState("makeBook with an author of another session", () -> x.makeBook(0, 1, 1));
        Check.badState("makeBook with no such author", () -> x.makeBook(0, 1, 2));
        Check.badState("makeBook without author", () -> x.makeBook(0, 1, NONE));
        Check.badState("makeBook with the lowest number", () -> x.makeBook(0, 1, Integer.MIN_VALUE));
        Check.badState("makeBook with the highest number", () -> x.makeBook(0, 1, Integer.MAX_VALUE));
        Check.noSession("makeBook(3, -1, -1)", () -> x.makeBook(3, -1, -1));
        Check.badArgument("makeBook(0, -1, 9)", () -> x.makeBook(0, -1, 9));
        Check.badArgument("makeBook(0, 1001, 0)", () -> x.makeBook(0, 1001, 0));
        x.flush(0);
        x.remove(0, AUTHOR, 0);
        Check.badState("makeBook with a removed author", () -> x.makeBook(0, 1, 0));
        Check.same("calls that throw take no key", x.makeBook(1, 5, 1), 2);
    }

    private static void promise4Find() {
        ObjectMapper x = new ObjectMapper();
        x.makeAuthor(0, 1);
        x.makeBook(0, 2, 0);
        x.setReference(0, AUTHOR, 0, 0);
        Check.same("made in the session", x.find(0, AUTHOR, 0), true);
        Check.same("made in another session, without a row", x.find(1, AUTHOR, 0), false);
        Check.same("which is not known then", x.known(1), 0);
        x.flush(0);
        Check.same("author with a row", x.find(1, AUTHOR, 0), true);
        Check.same("loaded as the row is", State.object(x, 1, AUTHOR, 0), "1 0");
        Check.same("book with a row", x.find(1, BOOK, 0), true);
        Check.same("loaded as the row is", State.object(x, 1, BOOK, 0), "2 0");
        x.setName(1, AUTHOR, 0, 7);
        Check.same("known already", x.find(1, AUTHOR, 0), true);
        Check.same("as the session knows it", x.name(1, AUTHOR, 0), 7);
        x.flush(1);
        Check.same("known with an older row", x.find(0, AUTHOR, 0), true);
        Check.same("objects do not change with rows", x.name(0, AUTHOR, 0), 1);
        x.remove(1, BOOK, 0);
        Check.same("removed", x.find(1, BOOK, 0), false);
        Check.same("not loaded again", x.known(1), 1);
        x.flush(1);
        Check.same("the row is gone, the object is not", x.find(0, BOOK, 0), true);
        Check.same("the row is gone", x.find(2, BOOK, 0), false);
        Check.same("no such key", x.find(2, BOOK, 1), false);
        Check.same("a key below 0", x.find(2, BOOK, -1), false);
        Check.same("the lowest number", x.find(2, AUTHOR, Integer.MIN_VALUE), false);
        Check.same("the highest number", x.find(2, AUTHOR, Integer.MAX_VALUE), false);
        Check.noSession("find(-1, 2, 0)", () -> x.find(-1, 2, 0));
        Check.noSession("find(3, 0, 0)", () -> x.find(3, 0, 0));
        Check.badArgument("find(0, 2, 0)", () -> x.find(0, 2, 0));
        Check.badArgument("find(0, -1, 0)", () -> x.find(0, -1, 0));
    }

    private static void promise5Books() {
        ObjectMapper x = new ObjectMapper();
        x.makeAuthor(0, 1);
        x.makeAuthor(0, 2);
        for (int i = 0; i < 3; i++) {
            x.makeBook(0, 10 + i, 0);
        }
        x.makeBook(0, 13, 1);
        Check.same("books that were made", x.books(0, 0), 3);
        x.flush(0);
        x.find(1, AUTHOR, 0);
        x.find(1, AUTHOR, 1);
        Check.same("books that are loaded", x.books(1, 0), 3);
        Check.same("and known then, but no others", x.known(1), 5);
        x.setReference(1, BOOK, 0, 1);
        Check.same("a book that refers to another author now is not counted", x.books(1, 0), 2);
        Check.same("and keeps its new author", x.reference(1, BOOK, 0), 1);
        Check.same("books of the other author, known and loaded", x.books(1, 1), 2);
        x.remove(1, BOOK, 1);
        Check.same("a removed book is not counted", x.books(1, 0), 1);
        x.makeBook(1, 20, 0);
        Check.same("a made one is", x.books(1, 0), 2);
        Check.noSession("books(3, 0)", () -> x.books(3, 0));
        Check.noSession("books(-1, 9)", () -> x.books(-1, 9));
        Check.badState("books of an author not known", () -> x.books(2, 0));
        Check.badState("books of no author", () -> x.books(0, NONE));
        Check.badState("books of no such author", () -> x.books(0, 2));
        x.remove(0, AUTHOR, 1);
        Check.badState("books of a removed author", () -> x.books(0, 1));
    }

    private static void promise6SetName() {
        ObjectMapper x = new ObjectMapper();
        x.makeAuthor(0, 1);
        x.makeBook(0, 2, 0);
        x.setName(0, AUTHOR, 0, 0);
        x.setName(0, BOOK, 0, 1000);
        Check.same("the author", State.object(x, 0, AUTHOR, 0), "0 -1");
        Check.same("the book", State.object(x, 0, BOOK, 0), "1000 0");
        Check.noSession("setName(3, 2, 0, -1)", () -> x.setName(3, 2, 0, -1));
        Check.badArgument("setName(0, 2, 0, 0)", () -> x.setName(0, 2, 0, 0));
        Check.badArgument("setName(0, -1, 0, 0)", () -> x.setName(0, -1, 0, 0));
        Check.badArgument("setName(0, 0, 0, -1)", () -> x.setName(0, AUTHOR, 0, -1));
        Check.badArgument("setName(0, 0, 9, 1001)", () -> x.setName(0, AUTHOR, 9, 1001));
        Check.badState("setName of none", () -> x.setName(0, AUTHOR, NONE, 0));
        Check.badState("setName in another session", () -> x.setName(1, AUTHOR, 0, 0));
        x.flush(0);
        x.remove(0, BOOK, 0);
        Check.badState("setName of a removed book", () -> x.setName(0, BOOK, 0, 0));
        Check.same("the row is as it was", State.row(x, AUTHOR, 0), "0 -1 0");
        x.setName(0, AUTHOR, 0, 5);
        Check.same("the row changes with the flush alone", State.row(x, AUTHOR, 0), "0 -1 0");
    }

    private static void promise7SetReference() {
        ObjectMapper x = new ObjectMapper();
        x.makeAuthor(0, 1);
        x.makeAuthor(0, 2);
        x.makeBook(0, 3, 0);
        x.makeBook(0, 4, 0);
        x.makeAuthor(1, 5);
        x.setReference(0, AUTHOR, 1, 0);
        Check.same("an author's favourite, another's book", x.reference(0, AUTHOR, 1), 0);
        x.setReference(0, AUTHOR, 1, NONE);
        Check.same("no favourite again", x.reference(0, AUTHOR, 1), NONE);
        x.setReference(0, BOOK, 1, 1);
        Check.same("a book's author", x.reference(0, BOOK, 1), 1);
        Check.noSession("setReference(3, 2, 0, 0)", () -> x.setReference(3, 2, 0, 0));
        Check.noSession("setReference(-1, 1, 0, -1)", () -> x.setReference(-1, BOOK, 0, NONE));
        Check.badArgument("setReference(0, 2, 0, 0)", () -> x.setReference(0, 2, 0, 0));
        Check.badArgument("setReference(0, -1, 9, -1)", () -> x.setReference(0, -1, 9, NONE));
        Check.badArgument("setReference(0, 1, 9, -1)", () -> x.setReference(0, BOOK, 9, NONE));
        Check.badState("an author not known, and none", () -> x.setReference(0, AUTHOR, 3, NONE));
        Check.badState("an author of another session", () -> x.setReference(0, AUTHOR, 2, 0));
        Check.badState("a book that is not known", () -> x.setReference(0, AUTHOR, 0, 2));
        Check.badState("a book of another session", () -> x.setReference(1, AUTHOR, 2, 0));
        Check.badState("a number below NONE", () -> x.setReference(0, AUTHOR, 0, -2));
        Check.badState("a number below NONE for a book", () -> x.setReference(0, BOOK, 0, -2));
        Check.badState("an author not known to a book", () -> x.setReference(0, BOOK, 0, 2));
        x.flush(0);
        x.remove(0, BOOK, 0);
        Check.badState("a removed book as the favourite", () -> x.setReference(0, AUTHOR, 0, 0));
        Check.badState("a removed book's author", () -> x.setReference(0, BOOK, 0, 0));
        x.remove(0, AUTHOR, 0);
        Check.badState("a removed author for a book", () -> x.setReference(0, BOOK, 1, 0));
        Check.badState("a removed author's favourite", () -> x.setReference(0, AUTHOR, 0, 1));
        Check.badState("a removed author without favourite", () -> x.setReference(0, AUTHOR, 0, NONE));
    }

    private static void promise8RemoveBook() {
        ObjectMapper x = new ObjectMapper();
        x.makeAuthor(0, 1);
        x.makeAuthor(0, 2);
        x.makeBook(0, 3, 0);
        x.makeBook(0, 4, 0);
        x.setReference(0, AUTHOR, 0, 0);
        x.setReference(0, AUTHOR, 1, 1);
        x.flush(0);
        Check.same("a book alone", x.remove(0, BOOK, 0), 1);
        Check.same("the reference is taken", x.reference(0, AUTHOR, 0), NONE);
        Check.same("but not one to another book", x.reference(0, AUTHOR, 1), 1);
        Check.same("dirty by that", x.dirty(0), 1);
        Check.same("known are three", x.known(0), 3);
        Check.same("the row stays until the flush", x.rows(BOOK), 2);
        Check.badState("removed already", () -> x.remove(0, BOOK, 0));
        Check.noSession("remove(3, 2, 0)", () -> x.remove(3, 2, 0));
        Check.badArgument("remove(0, 2, 0)", () -> x.remove(0, 2, 0));
        Check.badArgument("remove(0, -1, 9)", () -> x.remove(0, -1, 9));
        Check.badState("not known", () -> x.remove(1, BOOK, 1));
        Check.badState("no such book", () -> x.remove(0, BOOK, 2));
        Check.badState("none", () -> x.remove(0, BOOK, NONE));
    }

    private static void promise8RemoveAuthor() {
        ObjectMapper x = new ObjectMapper();
        x.makeAuthor(0, 1);
        x.makeAuthor(0, 2);
        x.makeBook(0, 3, 0);
        x.makeBook(0, 4, 0);
        x.makeBook(0, 5, 0);
        x.makeBook(0, 6, 1);
        x.setReference(0, AUTHOR, 0, 0);
        x.setReference(0, AUTHOR, 1, 1);
        x.flush(0);
        x.setReference(0, BOOK, 2, 1);
        x.setReference(0, BOOK, 3, 0);
        x.remove(0, BOOK, 0);
        Check.same("the author and two books: 0 is removed already, 2 is another's, 3 came", x.remove(0, AUTHOR, 0), 3);
        Check.same("the other author and one book stay", x.known(0), 2);
        Check.same("the other author lost its favourite", x.reference(0, AUTHOR, 1), NONE);
        Check.same("book 2 stays", State.object(x, 0, BOOK, 2), "5 1");
        Check.same("book 1 is removed", State.object(x, 0, BOOK, 1), "none");
        Check.same("book 3 is removed", State.object(x, 0, BOOK, 3), "none");
    }

    private static void promise8RemoveLoads() {
        ObjectMapper x = new ObjectMapper();
        x.makeAuthor(0, 1);
        x.makeAuthor(0, 2);
        x.makeAuthor(0, 3);
        x.makeBook(0, 4, 0);
        x.makeBook(0, 5, 0);
        x.makeBook(0, 6, 1);
        x.setReference(0, AUTHOR, 0, 1);
        x.setReference(0, AUTHOR, 1, 0);
        x.setReference(0, AUTHOR, 2, 2);
        x.flush(0);
        x.find(1, AUTHOR, 0);
        Check.same("an author with books that are loaded", x.remove(1, AUTHOR, 0), 3);
        Check.same("author 1 is loaded, and no more", x.known(1), 1);
        Check.same("and lost its favourite", State.object(x, 1, AUTHOR, 1), "2 -1");
        Check.same("so it is dirty", x.dirty(1), 1);
        x.find(2, BOOK, 2);
        Check.same("a book alone", x.remove(2, BOOK, 2), 1);
        Check.same("author 2 is loaded", State.object(x, 2, AUTHOR, 2), "3 -1");
        Check.same("and not the book's own author", x.known(2), 1);
        x.find(2, AUTHOR, 1);
        x.setReference(2, AUTHOR, 1, NONE);
        x.find(2, BOOK, 0);
        x.setName(2, AUTHOR, 1, 9);
        Check.same("removing what author 1 referred to", x.remove(2, BOOK, 0), 1);
        Check.same("does not load again what is known", State.object(x, 2, AUTHOR, 1), "9 -1");
    }

    private static void promise8RemoveForgetsMade() {
        ObjectMapper x = new ObjectMapper();
        x.makeAuthor(0, 1);
        x.makeBook(0, 2, 0);
        x.setReference(0, AUTHOR, 0, 0);
        Check.same("made ones are counted", x.remove(0, AUTHOR, 0), 2);
        Check.same("and forgotten", x.known(0), 0);
        Check.same("so that the flush has nothing to do", x.flush(0), 0);
        Check.same("an author not flushed is not found again", x.find(0, AUTHOR, 0), false);
        x.makeAuthor(0, 3);
        x.makeBook(0, 4, 1);
        x.setReference(0, AUTHOR, 1, 1);
        x.flush(0);
        x.makeBook(0, 5, 1);
        x.setReference(0, AUTHOR, 1, 2);
        Check.same("a made book", x.remove(0, BOOK, 2), 1);
        Check.same("is taken from its author too", x.reference(0, AUTHOR, 1), NONE);
        Check.same("which is an update alone", x.flush(0), 1);
        Check.same("of its row", State.row(x, AUTHOR, 1), "3 -1 2");
    }

    private static void promise9And10NameAndReference() {
        ObjectMapper x = new ObjectMapper();
        x.makeAuthor(0, 7);
        x.makeBook(0, 8, 0);
        Check.same("name of the author", x.name(0, AUTHOR, 0), 7);
        Check.same("name of the book", x.name(0, BOOK, 0), 8);
        Check.same("no reference of the author", x.reference(0, AUTHOR, 0), NONE);
        Check.same("reference of the book", x.reference(0, BOOK, 0), 0);
        x.setReference(0, AUTHOR, 0, 0);
        Check.same("reference of the author", x.reference(0, AUTHOR, 0), 0);
        Check.noSession("name(3, 2, 0)", () -> x.name(3, 2, 0));
        Check.noSession("reference(-1, 2, 0)", () -> x.reference(-1, 2, 0));
        Check.badArgument("name(0, 2, 9)", () -> x.name(0, 2, 9));
        Check.badArgument("reference(0, -1, 9)", () -> x.reference(0, -1, 9));
        Check.badState("name of no such author", () -> x.name(0, AUTHOR, 1));
        Check.badState("reference of no such book", () -> x.reference(0, BOOK, 1));
        Check.badState("name of none", () -> x.name(0, AUTHOR, NONE));
        Check.badState("reference of none", () -> x.reference(0, AUTHOR, NONE));
        x.flush(0);
        Check.badState("name of a row not loaded", () -> x.name(1, AUTHOR, 0));
        Check.badState("reference of a row not loaded", () -> x.reference(1, BOOK, 0));
        x.remove(0, AUTHOR, 0);
        Check.badState("name of a removed author", () -> x.name(0, AUTHOR, 0));
        Check.badState("reference of a book removed with it", () -> x.reference(0, BOOK, 0));
    }

    private static void promise11Known() {
        ObjectMapper x = new ObjectMapper();
        x.makeAuthor(0, 1);
        x.makeBook(0, 2, 0);
        x.makeBook(0, 3, 0);
        Check.same("made", x.known(0), 3);
        x.flush(0);
        Check.same("flushed", x.known(0), 3);
        Check.same("another session", x.known(1), 0);
        x.find(1, BOOK, 1);
        Check.same("a book without its author", x.known(1), 1);
        x.remove(0, BOOK, 0);
        Check.same("without the removed one", x.known(0), 2);
        x.flush(0);
        Check.same("which is forgotten now", x.known(0), 2);
        Check.noSession("known(3)", () -> x.known(3));
        Check.noSession("known(-1)", () -> x.known(-1));
    }

    private static void promise12Dirty() {
        ObjectMapper x = new ObjectMapper();
        x.makeAuthor(0, 1);
        x.makeBook(0, 2, 0);
        x.setName(0, AUTHOR, 0, 5);
        x.setReference(0, AUTHOR, 0, 0);
        Check.same("without a snapshot nothing is dirty", x.dirty(0), 0);
        x.flush(0);
        Check.same("nor after the flush", x.dirty(0), 0);
        x.setName(0, AUTHOR, 0, 6);
        Check.same("by its name", x.dirty(0), 1);
        x.setName(0, AUTHOR, 0, 5);
        Check.same("not with the snapshot's name", x.dirty(0), 0);
        x.setReference(0, AUTHOR, 0, NONE);
        x.setName(0, BOOK, 0, 3);
        Check.same("by its reference, and a book", x.dirty(0), 2);
        x.setReference(0, AUTHOR, 0, 0);
        Check.same("the book alone", x.dirty(0), 1);
        x.remove(0, BOOK, 0);
        Check.same("not the removed book, but the author whose reference it took", x.dirty(0), 1);
        x.find(1, AUTHOR, 0);
        x.setName(1, AUTHOR, 0, 9);
        x.flush(1);
        Check.same("a changed row makes nothing dirty", x.dirty(0), 1);
        Check.same("another session", x.dirty(1), 0);
        Check.noSession("dirty(3)", () -> x.dirty(3));
        Check.noSession("dirty(-1)", () -> x.dirty(-1));
    }
}
