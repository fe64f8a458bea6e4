/** Promises 15 to 21: tables and writes. */
public final class TablesTest {
    private static final int NONE = ObjectMapper.NONE;
    private static final int AUTHOR = ObjectMapper.AUTHOR;
    private static final int BOOK = ObjectMapper.BOOK;

    public static void main(String[] args) {
        promise15Rows();
        promises16To18Row();
        promises16To18WrongInputs();
        promises19To21Writes();
        promises20And21WrongInputs();
        Check.end();
    }

    private static void promise15Rows() {
        ObjectMapper x = new ObjectMapper();
        x.makeAuthor(0, 1);
        x.makeAuthor(0, 2);
        x.makeBook(0, 3, 0);
        Check.same("no rows before the flush", x.rows(AUTHOR) + x.rows(BOOK), 0);
        x.flush(0);
        Check.same("rows of authors", x.rows(AUTHOR), 2);
        Check.same("rows of books", x.rows(BOOK), 1);
        x.remove(0, AUTHOR, 0);
        Check.same("rows stay until the flush", x.rows(AUTHOR), 2);
        x.flush(0);
        Check.same("rows of authors behind a removal", x.rows(AUTHOR), 1);
        Check.same("rows of books behind a removal", x.rows(BOOK), 0);
        Check.badArgument("rows(2)", () -> x.rows(2));
        Check.badArgument("rows(-1)", () -> x.rows(-1));
    }

    private static void promises16To18Row() {
        ObjectMapper x = new ObjectMapper();
        x.makeAuthor(0, 0);
        x.makeAuthor(0, 1000);
        x.makeBook(0, 3, 1);
        x.setReference(0, AUTHOR, 1, 0);
        x.flush(0);
        Check.same("rowName of author 0", x.rowName(AUTHOR, 0), 0);
        Check.same("rowName of author 1", x.rowName(AUTHOR, 1), 1000);
        Check.same("rowName of the book", x.rowName(BOOK, 0), 3);
        Check.same("rowReference of author 0", x.rowReference(AUTHOR, 0), NONE);
        Check.same("rowReference of author 1", x.rowReference(AUTHOR, 1), 0);
        Check.same("rowReference of the book", x.rowReference(BOOK, 0), 1);
        Check.same("rowVersion of author 0", x.rowVersion(AUTHOR, 0), 0);
        Check.same("rowVersion of author 1", x.rowVersion(AUTHOR, 1), 1);
        Check.same("rowVersion of the book", x.rowVersion(BOOK, 0), 0);
        x.setReference(0, BOOK, 0, 0);
        Check.same("rows do not change without a flush", x.rowReference(BOOK, 0), 1);
        x.flush(0);
        Check.same("the new reference", x.rowReference(BOOK, 0), 0);
        Check.same("and version", x.rowVersion(BOOK, 0), 1);
    }

    private static void promises16To18WrongInputs() {
        ObjectMapper x = new ObjectMapper();
        x.makeAuthor(0, 1);
        x.flush(0);
        x.makeAuthor(0, 2);
        x.find(1, AUTHOR, 0);
        x.remove(1, AUTHOR, 0);
        Check.same("a row of a removed object", State.row(x, AUTHOR, 0), "1 -1 0");
        wrongRow(x, AUTHOR, 1, "made, not flushed");
        wrongRow(x, AUTHOR, 2, "no such key");
        wrongRow(x, AUTHOR, -1, "below 0");
        wrongRow(x, BOOK, 0, "in an empty table");
        wrongRow(x, AUTHOR, Integer.MAX_VALUE, "the highest number");
        wrongRow(x, BOOK, Integer.MIN_VALUE, "the lowest number");
        x.flush(1);
        wrongRow(x, AUTHOR, 0, "deleted");
        int[] kinds = {-1, 2, Integer.MIN_VALUE, Integer.MAX_VALUE};
        for (int kind : kinds) {
            for (int key = -1; key < 2; key++) {
                int there = key;
                Check.badArgument("rowName(" + kind + ", " + key + ")", () -> x.rowName(kind, there));
                Check.badArgument("rowReference(" + kind + ", " + key + ")", () -> x.rowReference(kind, there));
                Check.badArgument("rowVersion(" + kind + ", " + key + ")", () -> x.rowVersion(kind, there));
            }
        }
    }

    private static void wrongRow(ObjectMapper x, int kind, int key, String why) {
        Check.outside("rowName, " + why, () -> x.rowName(kind, key));
        Check.outside("rowReference, " + why, () -> x.rowReference(kind, key));
        Check.outside("rowVersion, " + why, () -> x.rowVersion(kind, key));
    }

    private static void promises19To21Writes() {
        ObjectMapper x = new ObjectMapper();
        Check.same("no writes", x.writes(), 0);
        x.makeAuthor(0, 1);
        x.makeAuthor(1, 2);
        x.makeBook(1, 3, 1);
        Check.same("no writes before the flush", x.writes(), 0);
        x.flush(1);
        Check.same("two writes", x.writes(), 2);
        x.flush(0);
        x.remove(1, BOOK, 0);
        x.setName(1, AUTHOR, 1, 9);
        x.flush(1);
        Check.same("five writes of both sessions", x.writes(), 5);
        int[] actions = {ObjectMapper.INSERT, ObjectMapper.INSERT, ObjectMapper.INSERT, ObjectMapper.UPDATE, ObjectMapper.DELETE};
        int[] rowNumbers = {2, 1, 0, 2, 1};
        for (int number = 0; number < 5; number++) {
            Check.same("write " + number, x.write(number), actions[number]);
            Check.same("written " + number, x.written(number), rowNumbers[number]);
        }
        x.setName(1, AUTHOR, 1, 9);
        x.flush(1);
        x.clear(1);
        Check.same("a flush without a change writes nothing, and clear takes no write back", x.writes(), 5);
    }

    private static void promises20And21WrongInputs() {
        ObjectMapper x = new ObjectMapper();
        Check.outside("write(0) of none", () -> x.write(0));
        Check.outside("written(0) of none", () -> x.written(0));
        x.makeAuthor(0, 1);
        x.flush(0);
        int[] numbers = {-1, 1, 2, 100, Integer.MIN_VALUE, Integer.MAX_VALUE};
        for (int number : numbers) {
            Check.outside("write(" + number + ")", () -> x.write(number));
            Check.outside("written(" + number + ")", () -> x.written(number));
        }
    }
}
