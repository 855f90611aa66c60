/** Promises 12 and 13: head and told. */
public final class ReadTest {
    public static void main(String[] args) {
        headOfASealedBatch();
        headWithoutProducer();
        headAtItsBounds();
        whatIsOutOfBounds();
        toldOfSealedRecords();
        toldOfLongKeys();
        toldOfEarlierTimes();
        nothingOfAFaultyTape();
        Dues.end();
    }

    private static void head(String name, BatchBytes x, long... want) {
        for (int i = 0; i < want.length; i++) {
            int what = i;
            Dues.due(name + ": head(" + i + ")", () -> x.head(what), want[i]);
        }
    }

    private static void told(String name, BatchBytes x, int k, long... want) {
        for (int i = 0; i < want.length; i++) {
            int what = i;
            Dues.due(name + ": told(" + k + ", " + i + ")", () -> x.told(k, what), want[i]);
        }
    }

    private static void headOfASealedBatch() {
        BatchBytes x = new BatchBytes();
        x.record(3, 0, 0, 0, 0, 10);
        x.seal(77, 0x12347FFF, 0x7FFFFFFE, 5000);
        head("a sealed batch", x, 5000, 5012, 77, 32767, 0x7FFFFFFE, 3);
        head("the same again", x, 5000, 5012, 77, 32767, 0x7FFFFFFE, 3);
    }

    private static void headWithoutProducer() {
        BatchBytes x = new BatchBytes();
        x.record(1, 0, 0, 0, 0, 0);
        x.seal(-1, 0x0001FFFF, -1, 0);
        head("no producer", x, 0, 0, -1, -1, -1, 1);
    }

    private static void headAtItsBounds() {
        BatchBytes x = new BatchBytes();
        Bytes b = Bytes.batch(1, 1L << 50, 1L << 50, Bytes.record(0, 0, null, null));
        b.setNumber(43, 1L << 50, 8);
        b.setNumber(51, 0, 2);
        b.setNumber(53, Integer.MAX_VALUE, 4);
        b.rightened().feedTo(x);
        head("the highest numbers", x, 1L << 50, 1L << 50, 1L << 50, 0, Integer.MAX_VALUE, 1);
        told("its record", x, 0, 61, 1L << 50, -1, 0, -1, 0);
    }

    private static void whatIsOutOfBounds() {
        BatchBytes x = new BatchBytes();
        x.record(2, 0, 0, 0, 0, 0);
        x.seal(0, 0, 0, 0);
        int[] bad = {-1, 6, Integer.MIN_VALUE, Integer.MAX_VALUE};
        for (int what : bad) {
            Dues.due("head(" + what + ")", () -> x.head(what), Dues.ARGUMENT);
            Dues.due("told(0, " + what + ")", () -> x.told(0, what), Dues.ARGUMENT);
        }
        int[] none = {-1, 2, Integer.MIN_VALUE, Integer.MAX_VALUE};
        for (int k : none) {
            Dues.due("told(" + k + ", 0)", () -> x.told(k, 0), Dues.ARGUMENT);
            Dues.due("told(" + k + ", 7)", () -> x.told(k, 7), Dues.ARGUMENT);
        }
    }

    private static void toldOfSealedRecords() {
        BatchBytes x = new BatchBytes();
        x.record(2, 0xFF, 1, 0x0102030405060708L, 9, 3);
        x.record(1, -2, 8, -1, 8, 0);
        x.record(1, 0x0102030405060708L, 7, 0x80, 1, 1000000);
        x.record(1, 5, 0, 5, 0, 1);
        x.record(1, 5, -1, 5, -1, 2);
        x.seal(0, 0, 0, 100);
        told("key 255", x, 0, 61, 103, 1, 255, 9, 0x0807060504030201L);
        told("key 256 in one byte", x, 1, 78, 104, 1, 0, 9, 0x0907060504030201L);
        told("eight bytes", x, 2, 95, 100, 8, -2, 8, -1);
        told("seven bytes", x, 3, 118, 1000100, 7, 0x02030405060708L, 1, 0x80);
        told("empty ones", x, 4, 118 + 17, 101, 0, 0, 0, 0);
        told("none", x, 5, 118 + 17 + 7, 102, -1, 0, -1, 0);
        told("key 255 after the others", x, 0, 61, 103, 1, 255, 9, 0x0807060504030201L);
    }

    private static void toldOfLongKeys() {
        int[] nine = {0x81, 2, 3, 4, 5, 6, 7, 8, 9};
        int[] ten = {1, 2, 3, 4, 5, 6, 7, 8, 9, 10};
        BatchBytes x = new BatchBytes();
        Bytes.batch(1, 0, 0, Bytes.record(0, 0, nine, ten)).feedTo(x);
        told("long ones", x, 0, 61, 0, 9, 0x8102030405060708L, 10, 0x0102030405060708L);
        BatchBytes y = new BatchBytes();
        Bytes.batch(1, 0, 0, Bytes.record(0, 0, new int[5000], new int[200])).feedTo(y);
        told("longer ones", y, 0, 61, 0, 5000, 0, 200, 0);
    }

    private static void toldOfEarlierTimes() {
        Bytes two = new Bytes().add(Bytes.record(-1L << 50, 0, null, null)).add(Bytes.record(-1, 1, null, null));
        BatchBytes x = new BatchBytes();
        Bytes.batch(2, 1L << 50, (1L << 50) - 1, two).feedTo(x);
        told("2^50 earlier", x, 0, 61, 0);
        told("1 earlier", x, 1, 61 + 14, (1L << 50) - 1);
        head("times before the first", x, 1L << 50, (1L << 50) - 1);
    }

    private static void nothingOfAFaultyTape() {
        BatchBytes x = new BatchBytes();
        x.record(2, 1, 1, 1, 1, 1);
        x.seal(0, 0, 0, 0);
        Dues.due("told while sound", () -> x.told(1, 3), 2);
        x.spoil(70, 1);
        for (int what = -1; what <= 6; what++) {
            int w = what;
            Dues.due("head(" + w + ") of a spoiled tape", () -> x.head(w), Dues.ARGUMENT);
            Dues.due("told(0, " + w + ") of a spoiled tape", () -> x.told(0, w), Dues.ARGUMENT);
        }
        x.spoil(70, 1);
        Dues.due("told when sound again", () -> x.told(1, 3), 2);
        x.feed(0, 0, 0, 0, 0);
        Dues.due("head of a longer tape", () -> x.head(0), Dues.ARGUMENT);
        x.trim(x.size());
        Dues.due("told of an empty tape", () -> x.told(0, 0), Dues.ARGUMENT);
    }
}
