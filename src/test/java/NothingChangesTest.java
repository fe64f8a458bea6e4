/** The terms: a call that throws changes nothing, and of several exceptions the one that is listed first is thrown. */
public final class NothingChangesTest {
    private static final int KEYS = 6;
    private static final int[] SESSIONS = {Integer.MIN_VALUE, -1, 0, 1, 2, 3, Integer.MAX_VALUE};
    private static final int[] KINDS = {Integer.MIN_VALUE, -1, 0, 1, 2, Integer.MAX_VALUE};
    private static final int[] NUMBERS = {Integer.MIN_VALUE, -2, -1, 0, 1, 2, 3, 4, 1000, 1001, Integer.MAX_VALUE};

    private static final String LATER = State.afterwards(prepared(), KEYS);

    private static ObjectMapper x;

    public static void main(String[] args) {
        for (int session : SESSIONS) {
            for (int number : NUMBERS) {
                ofSessionAndNumber(session, number);
            }
            for (int kind : KINDS) {
                for (int key : NUMBERS) {
                    ofObject(session, kind, key);
                }
            }
        }
        Check.end();
    }

    // Session 0: authors 0 and 4 and book 0 are live, author 1 and book 2 are removed, author 2 and book 1 are deleted.
    // Session 1 knows author 3 alone, which was made. Session 2 has a dirty author 0 whose version clashes.
    private static ObjectMapper prepared() {
        ObjectMapper mapper = new ObjectMapper();
        mapper.makeAuthor(0, 1);
        mapper.makeAuthor(0, 2);
        mapper.makeAuthor(0, 3);
        mapper.makeBook(0, 10, 0);
        mapper.makeBook(0, 11, 2);
        mapper.flush(0);
        mapper.remove(0, ObjectMapper.AUTHOR, 2);
        mapper.makeAuthor(1, 4);
        mapper.find(2, ObjectMapper.AUTHOR, 0);
        mapper.setName(2, ObjectMapper.AUTHOR, 0, 5);
        mapper.setName(0, ObjectMapper.AUTHOR, 0, 6);
        mapper.makeBook(0, 12, 1);
        mapper.flush(0);
        mapper.makeAuthor(0, 7);
        mapper.remove(0, ObjectMapper.AUTHOR, 1);
        return mapper;
    }

    private static boolean live(int session, int kind, int key) {
        return !State.object(x, session, kind, key).equals("none");
    }

    private static void ofSessionAndNumber(int session, int number) {
        x = prepared();
        boolean noSession = session < 0 || session > 2;
        boolean badName = number < 0 || number > 1000;
        expect("makeAuthor(" + session + ", " + number + ")", noSession, badName, false,
                () -> x.makeAuthor(session, number));
        x = prepared();
        expect("books(" + session + ", " + number + ")", noSession, false,
                !noSession && !live(session, 0, number), () -> x.books(session, number));
        for (int author : NUMBERS) {
            x = prepared();
            expect("makeBook(" + session + ", " + number + ", " + author + ")", noSession, badName,
                    !noSession && !live(session, 0, author), () -> x.makeBook(session, number, author));
        }
        x = prepared();
        expect("known(" + session + ")", noSession, false, false, () -> x.known(session));
        x = prepared();
        expect("dirty(" + session + ")", noSession, false, false, () -> x.dirty(session));
        x = prepared();
        expect("clear(" + session + ")", noSession, false, false, () -> x.clear(session));
        x = prepared();
        expect("flush(" + session + ")", noSession, false, session == 2, () -> x.flush(session));
    }

    private static void ofObject(int session, int kind, int key) {
        x = prepared();
        String of = "(" + session + ", " + kind + ", " + key;
        boolean noSession = session < 0 || session > 2;
        boolean badKind = kind < 0 || kind > 1;
        boolean notLive = !noSession && !badKind && !live(session, kind, key);
        expect("name" + of + ")", noSession, badKind, notLive, () -> x.name(session, kind, key));
        x = prepared();
        expect("reference" + of + ")", noSession, badKind, notLive, () -> x.reference(session, kind, key));
        x = prepared();
        expect("find" + of + ")", noSession, badKind, false, () -> x.find(session, kind, key));
        x = prepared();
        expect("remove" + of + ")", noSession, badKind, notLive, () -> x.remove(session, kind, key));
        for (int number : NUMBERS) {
            x = prepared();
            boolean badName = number < 0 || number > 1000;
            expect("setName" + of + ", " + number + ")", noSession, badKind || badName, notLive,
                    () -> x.setName(session, kind, key, number));
            x = prepared();
            boolean noneForBook = kind == 1 && number == -1;
            boolean targetNotLive = !noSession && !badKind && number != -1 && !live(session, 1 - kind, number);
            expect("setReference" + of + ", " + number + ")", noSession, badKind || noneForBook,
                    notLive || targetNotLive, () -> x.setReference(session, kind, key, number));
        }
    }

    private static void expect(String what, boolean index, boolean argument, boolean state, Check.Call call) {
        String before = State.of(x, KEYS);
        if (index) {
            Check.noSession(what, call);
        } else if (argument) {
            Check.badArgument(what, call);
        } else if (state) {
            Check.badState(what, call);
        } else {
            call.run();
            return;
        }
        Check.same(what + " changes nothing", State.of(x, KEYS), before);
        Check.same(what + " changes nothing that shows later", State.afterwards(x, KEYS), LATER);
    }
}
