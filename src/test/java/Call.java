import java.util.function.ToIntBiFunction;

/** The calls of the face, each of a mapper and of PlainModel alike. */
enum Call {
    MAKE_AUTHOR((x, a) -> x.makeAuthor(a[0], a[1]), (y, a) -> y.makeAuthor(a[0], a[1])),
    MAKE_BOOK((x, a) -> x.makeBook(a[0], a[1], a[2]), (y, a) -> y.makeBook(a[0], a[1], a[2])),
    FIND((x, a) -> x.find(a[0], a[1], a[2]) ? 1 : 0, (y, a) -> y.find(a[0], a[1], a[2])),
    BOOKS((x, a) -> x.books(a[0], a[1]), (y, a) -> y.books(a[0], a[1])),
    SET_NAME((x, a) -> setName(x, a), (y, a) -> y.setName(a[0], a[1], a[2], a[3])),
    SET_REFERENCE((x, a) -> setReference(x, a), (y, a) -> y.setReference(a[0], a[1], a[2], a[3])),
    REMOVE((x, a) -> x.remove(a[0], a[1], a[2]), (y, a) -> y.remove(a[0], a[1], a[2])),
    NAME((x, a) -> x.name(a[0], a[1], a[2]), (y, a) -> y.name(a[0], a[1], a[2])),
    REFERENCE((x, a) -> x.reference(a[0], a[1], a[2]), (y, a) -> y.reference(a[0], a[1], a[2])),
    KNOWN((x, a) -> x.known(a[0]), (y, a) -> y.known(a[0])),
    DIRTY((x, a) -> x.dirty(a[0]), (y, a) -> y.dirty(a[0])),
    FLUSH((x, a) -> x.flush(a[0]), (y, a) -> y.flush(a[0])),
    CLEAR((x, a) -> x.clear(a[0]), (y, a) -> y.clear(a[0])),
    ROWS((x, a) -> x.rows(a[0]), (y, a) -> y.rows(a[0])),
    ROW_NAME((x, a) -> x.rowName(a[0], a[1]), (y, a) -> y.rowName(a[0], a[1])),
    ROW_REFERENCE((x, a) -> x.rowReference(a[0], a[1]), (y, a) -> y.rowReference(a[0], a[1])),
    ROW_VERSION((x, a) -> x.rowVersion(a[0], a[1]), (y, a) -> y.rowVersion(a[0], a[1])),
    WRITES((x, a) -> x.writes(), (y, a) -> y.writes()),
    WRITE((x, a) -> x.write(a[0]), (y, a) -> y.write(a[0])),
    WRITTEN((x, a) -> x.written(a[0]), (y, a) -> y.written(a[0]));

    /** Exceptions as answers: far below every other one. */
    static final int NO_INDEX = -1_000_001, NO_ARGUMENT = -1_000_002, NO_STATE = -1_000_003;

    private final ToIntBiFunction<ObjectMapper, int[]> ofMapper;
    private final ToIntBiFunction<PlainModel, int[]> ofModel;

    Call(ToIntBiFunction<ObjectMapper, int[]> ofMapper, ToIntBiFunction<PlainModel, int[]> ofModel) {
        this.ofMapper = ofMapper;
        this.ofModel = ofModel;
    }

    int of(ObjectMapper x, int... arguments) {
        try {
            return ofMapper.applyAsInt(x, arguments);
        } catch (RuntimeException e) {
            return number(e);
        }
    }

    int of(PlainModel y, int... arguments) {
        try {
            return ofModel.applyAsInt(y, arguments);
        } catch (RuntimeException e) {
            return number(e);
        }
    }

    private static int setName(ObjectMapper x, int[] a) {
        x.setName(a[0], a[1], a[2], a[3]);
        return 0;
    }

    private static int setReference(ObjectMapper x, int[] a) {
        x.setReference(a[0], a[1], a[2], a[3]);
        return 0;
    }

    private static int number(RuntimeException e) {
        Class<?> type = e.getClass();
        if (type == IndexOutOfBoundsException.class) {
            return NO_INDEX;
        }
        if (type == IllegalArgumentException.class) {
            return NO_ARGUMENT;
        }
        if (type == IllegalStateException.class) {
            return NO_STATE;
        }
        throw e;
    }
}
