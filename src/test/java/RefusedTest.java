import java.util.List;

/** "A call that throws changes nothing": each call that can throw, for each of its causes, in many states. */
public final class RefusedTest {
    private static final int LOWEST = Integer.MIN_VALUE;
    private static final int HIGHEST = Integer.MAX_VALUE;

    private interface Use {
        long answer(BatchBytes x);
    }

    private final String name;
    private final Made.Maker maker;
    private final List<String> before;
    private final int size;

    private RefusedTest(String name, Made.Maker maker) {
        this.name = name;
        this.maker = maker;
        this.before = Made.stateOf(maker);
        this.size = maker.make().size();
    }

    public static void main(String[] args) {
        Dues.by("a call that throws changes nothing");
        emptyObject();
        soundTape();
        faultyTape();
        fullTapeAndFullDraft();
        draftFullOfBytes();
        tapeAlmostFull();
        Dues.end();
    }

    /** The call throws this, twice, and the object's state is as it was. */
    private void refused(String call, Use use, String due) {
        String whole = name + ": " + call;
        BatchBytes x = maker.make();
        Dues.due(whole, () -> use.answer(x), due);
        Dues.due(whole + " again", () -> use.answer(x), due);
        List<String> after = Made.stateOf(() -> afterwards(use));
        for (int i = 0; i < before.size(); i++) {
            Dues.due(whole + " then", after.get(i), before.get(i));
        }
    }

    private BatchBytes afterwards(Use use) {
        BatchBytes x = maker.make();
        Dues.told(() -> use.answer(x));
        return x;
    }

    /** What is refused in every state. */
    private void argumentsOutOfBounds() {
        refused("trim(-1)", x -> x.trim(-1), Dues.ARGUMENT);
        refused("trim(one more)", x -> x.trim(size + 1), Dues.ARGUMENT);
        refused("spoil(-1, 1)", x -> x.spoil(-1, 1), Dues.ARGUMENT);
        refused("spoil(size, 1)", x -> x.spoil(size, 1), Dues.ARGUMENT);
        refused("spoil(0, 256)", x -> x.spoil(0, 256), Dues.ARGUMENT);
        refused("spoil(0, -1)", x -> x.spoil(0, -1), Dues.ARGUMENT);
        refused("byteAt(-1)", x -> x.byteAt(-1), Dues.ARGUMENT);
        refused("byteAt(size)", x -> x.byteAt(size), Dues.ARGUMENT);
        refused("fault(-1)", x -> x.fault(-1), Dues.ARGUMENT);
        refused("fault(2)", x -> x.fault(2), Dues.ARGUMENT);
        refused("head(-1)", x -> x.head(-1), Dues.ARGUMENT);
        refused("head(6)", x -> x.head(6), Dues.ARGUMENT);
        refused("told(-1, 0)", x -> x.told(-1, 0), Dues.ARGUMENT);
        refused("told(1000, 0)", x -> x.told(1000, 0), Dues.ARGUMENT);
        refused("told(0, 6)", x -> x.told(0, 6), Dues.ARGUMENT);
        refused("record n 0", x -> x.record(0, 1, 1, 1, 1, 1), Dues.ARGUMENT);
        refused("record n 101", x -> x.record(101, 1, 1, 1, 1, 1), Dues.ARGUMENT);
        refused("record keyBytes -2", x -> x.record(1, 1, -2, 1, 1, 1), Dues.ARGUMENT);
        refused("record keyBytes 9", x -> x.record(1, 1, 9, 1, 1, 1), Dues.ARGUMENT);
        refused("record valueBytes -2", x -> x.record(1, 1, 1, 1, -2, 1), Dues.ARGUMENT);
        refused("record valueBytes 301", x -> x.record(1, 1, 1, 1, 301, 1), Dues.ARGUMENT);
        refused("record later -1", x -> x.record(1, 1, 1, 1, 1, -1), Dues.ARGUMENT);
        refused("record later 1000001", x -> x.record(1, 1, 1, 1, 1, 1000001), Dues.ARGUMENT);
        refused("record of lowest numbers", x -> x.record(LOWEST, 1, LOWEST, 1, LOWEST, LOWEST), Dues.ARGUMENT);
        refused("record of highest numbers", x -> x.record(HIGHEST, 1, HIGHEST, 1, HIGHEST, HIGHEST), Dues.ARGUMENT);
        refused("seal at -1", x -> x.seal(1, 1, 1, -1), Dues.ARGUMENT);
        refused("seal at 2^49 + 1", x -> x.seal(1, 1, 1, (1L << 49) + 1), Dues.ARGUMENT);
    }

    private static void emptyObject() {
        RefusedTest t = new RefusedTest("an empty object", () -> new BatchBytes());
        t.argumentsOutOfBounds();
        t.refused("trim(1)", x -> x.trim(1), Dues.ARGUMENT);
        t.refused("spoil(0, 1)", x -> x.spoil(0, 1), Dues.ARGUMENT);
        t.refused("head(0)", x -> x.head(0), Dues.ARGUMENT);
        t.refused("told(0, 0)", x -> x.told(0, 0), Dues.ARGUMENT);
        t.refused("51 great records", x -> x.record(51, 0, 8, 0, 300, 0), Dues.STATE);
    }

    /** Three records on the tape, two in the draft. */
    private static BatchBytes sound() {
        BatchBytes x = new BatchBytes();
        x.record(3, 7, 2, 8, 9, 70);
        x.seal(4, 3, 2, 1);
        x.record(2, 5, 1, 6, 3, 9);
        return x;
    }

    private static void soundTape() {
        RefusedTest t = new RefusedTest("a sound tape", () -> sound());
        t.argumentsOutOfBounds();
        t.refused("told(3, 0)", x -> x.told(3, 0), Dues.ARGUMENT);
        t.refused("51 great records", x -> x.record(51, 0, 8, 0, 300, 1000000), Dues.STATE);
    }

    private static BatchBytes faulty() {
        BatchBytes x = sound();
        x.spoil(62, 1);
        x.check();
        return x;
    }

    private static void faultyTape() {
        RefusedTest t = new RefusedTest("a faulty tape", () -> faulty());
        t.argumentsOutOfBounds();
        t.refused("head(0)", x -> x.head(0), Dues.ARGUMENT);
        t.refused("told(0, 0)", x -> x.told(0, 0), Dues.ARGUMENT);
    }

    private static BatchBytes full() {
        BatchBytes x = Made.withBytes(16384);
        for (int i = 0; i < 10; i++) {
            x.record(100, i, 1, 0, -1, i);
        }
        return x;
    }

    private static void fullTapeAndFullDraft() {
        RefusedTest t = new RefusedTest("a full tape and draft", () -> full());
        t.argumentsOutOfBounds();
        t.refused("feed", x -> x.feed(1, 2, 3, 4, 5), Dues.STATE);
        t.refused("record", x -> x.record(1, 0, -1, 0, -1, 1000000), Dues.STATE);
        t.refused("record of 100", x -> x.record(100, 0, -1, 0, -1, 1000000), Dues.STATE);
        t.refused("seal", x -> x.seal(0, 0, 0, 0), Dues.STATE);
    }

    private static BatchBytes fullOfBytes() {
        BatchBytes x = Made.withDraftBytes(141);
        x.feed(1, 2, 3, 4, 5);
        return x;
    }

    private static void draftFullOfBytes() {
        RefusedTest t = new RefusedTest("a draft of 16000 bytes", () -> fullOfBytes());
        t.refused("record", x -> x.record(1, 0, -1, 0, -1, 1000000), Dues.STATE);
        t.refused("record of 100", x -> x.record(100, 0, 8, 0, 300, 1000000), Dues.STATE);
        t.refused("record n 101", x -> x.record(101, 1, 1, 1, 1, 1), Dues.ARGUMENT);
        t.refused("seal at -1", x -> x.seal(0, 0, 0, -1), Dues.ARGUMENT);
    }

    private static BatchBytes almostFull() {
        BatchBytes x = Made.withBytes(16365);
        x.record(2, 5, 1, 6, 3, 9);
        return x;
    }

    private static void tapeAlmostFull() {
        RefusedTest t = new RefusedTest("a tape of 16365 bytes", () -> almostFull());
        t.refused("feed", x -> x.feed(1, 2, 3, 4, 5), Dues.STATE);
        t.refused("seal", x -> x.seal(0, 0, 0, 0), Dues.STATE);
        t.refused("seal at -1", x -> x.seal(0, 0, 0, -1), Dues.ARGUMENT);
    }
}
