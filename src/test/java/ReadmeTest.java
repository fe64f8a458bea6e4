import java.io.IOException;
import java.nio.file.Files;
import java.nio.file.Path;
import java.util.List;

/** The example of README.md does what its comments say, and is the one that is run here. */
public final class ReadmeTest {
    public static void main(String[] args) throws IOException {
        theExample();
        theExampleStandsInTheReadme();
        Check.end();
    }

    private static void theExample() {
        ObjectMapper x = new ObjectMapper();
        int author = x.makeAuthor(0, 5);
        Check.same("the author's key", author, 0);
        int book = x.makeBook(0, 6, author);
        Check.same("the book's key", book, 0);
        x.setReference(0, ObjectMapper.AUTHOR, author, book);
        Check.same("the ring's writes", x.flush(0), 3);
        Check.same("session 1 finds the author", x.find(1, ObjectMapper.AUTHOR, author), true);
        x.setName(1, ObjectMapper.AUTHOR, author, 9);
        Check.same("one is dirty", x.dirty(1), 1);
        Check.same("one write", x.flush(1), 1);
        Check.same("its version", x.rowVersion(ObjectMapper.AUTHOR, author), 2);
        Check.same("session 0 keeps the old name", x.name(0, ObjectMapper.AUTHOR, author), 5);
        x.setName(0, ObjectMapper.AUTHOR, author, 7);
        Check.badState("the versions clash", () -> x.flush(0));
        Check.same("two objects are forgotten", x.clear(0), 2);
        Check.same("the book goes with its author", x.remove(1, ObjectMapper.AUTHOR, author), 2);
        Check.same("two deletes", x.flush(1), 2);
        Check.same("the last write", x.write(x.writes() - 1), ObjectMapper.DELETE);
        Check.same("its row", x.written(x.writes() - 1), 2 * author);
        Check.same("no row is left", x.rows(ObjectMapper.AUTHOR) + x.rows(ObjectMapper.BOOK), 0);
    }

    // Each call of the example above must be found there, in this order.
    private static void theExampleStandsInTheReadme() throws IOException {
        String readme = Files.readString(Path.of("README.md"));
        List<String> calls = List.of("new ObjectMapper()", "x.makeAuthor(0, 5)", "x.makeBook(0, 6, author)",
                "x.setReference(0, ObjectMapper.AUTHOR, author, book)", "x.flush(0)",
                "x.find(1, ObjectMapper.AUTHOR, author)", "x.setName(1, ObjectMapper.AUTHOR, author, 9)", "x.dirty(1)",
                "x.flush(1)", "x.rowVersion(ObjectMapper.AUTHOR, author)", "x.name(0, ObjectMapper.AUTHOR, author)",
                "x.setName(0, ObjectMapper.AUTHOR, author, 7)", "x.flush(0)", "x.clear(0)",
                "x.remove(1, ObjectMapper.AUTHOR, author)", "x.flush(1)", "x.write(x.writes() - 1)",
                "x.written(x.writes() - 1)", "x.rows(ObjectMapper.AUTHOR)");
        int from = 0;
        for (String call : calls) {
            int at = readme.indexOf(call, from);
            Check.same("README.md has " + call + " in its place", at >= 0, true);
            from = Math.max(from, at + call.length());
        }
    }
}
