/** Promises 12 and 13: head and told; a method for each sentence. */
public final class ReadTest {
    private static final int LOWEST = Integer.MIN_VALUE;
    private static final int HIGHEST = Integer.MAX_VALUE;
    private static final long MOST = 1L << 50;

    public static void main(String[] args) {
        headOfASealedBatch();
        headWithoutProducer();
        headAtItsLeast();
        headAtItsMost();
        headOfNoneOfThese();
        headOfAFaultyTape();
        placesOfRecords();
        timesOfRecords();
        keysLengths();
        keysNumbers();
        valuesLengths();
        valuesNumbers();
        recordsInAnyOrder();
        toldOfAFaultyTape();
        toldOfNoSuchRecord();
        toldOfNoneOfThese();
        greatestBatchOfAll();
        Dues.end();
    }

    private static void head(String name, BatchBytes x, long... want) {
        for (int i = 0; i < want.length; i++) {
            int what = i;
            Dues.due(name + ": head(" + i + ")", () -> x.head(what), want[i]);
        }
    }

    private static void told(String name, BatchBytes x, int k, long... want) {
        for (int i = 0; i < want.length; i++) {
            int what = i;
            Dues.due(name + ": told(" + k + ", " + i + ")", () -> x.told(k, what), want[i]);
        }
    }

    private static void headOfASealedBatch() {
        Dues.by("head: what = 0 FIRST TIME, 1 GREATEST TIME, 2 PRODUCER, 3 EPOCH, 4 SEQUENCE, 5 COUNT");
        BatchBytes x = new BatchBytes();
        x.record(3, 0, 0, 0, 0, 10);
        x.seal(77, 0x12347FFF, 0x7FFFFFFE, 5000);
        head("a sealed batch", x, 5000, 5012, 77, 32767, 0x7FFFFFFE, 3);
        head("the same again", x, 5000, 5012, 77, 32767, 0x7FFFFFFE, 3);
    }

    private static void headWithoutProducer() {
        Dues.by("PRODUCER (8; -1 for none) .. EPOCH and SEQUENCE not -1 if PRODUCER is");
        BatchBytes x = Made.withRecords(1);
        x.seal(-1, 0x0001FFFF, -1, 0);
        head("no producer", x, 0, 0, -1, -1, -1, 1);
    }

    private static void headAtItsLeast() {
        Dues.by("FIRST TIME not 0 .. 2^50, GREATEST TIME likewise, PRODUCER not -1 .. 2^50, .. else below 0, COUNT not 1 .. 1000");
        BatchBytes x = Made.withRecords(1);
        x.seal(0, 0, 0, 0);
        head("the lowest numbers", x, 0, 0, 0, 0, 0, 1);
    }

    private static void headAtItsMost() {
        Dues.by("FIRST TIME not 0 .. 2^50, GREATEST TIME likewise, PRODUCER not -1 .. 2^50, .. else below 0, COUNT not 1 .. 1000");
        Bytes b = Bytes.batch(1, MOST, MOST, Bytes.record(0, 0, null, null));
        b.setNumber(43, MOST, 8);
        b.setNumber(51, 32767, 2);
        b.setNumber(53, HIGHEST, 4);
        head("the highest numbers", Made.withTape(b.rightened()), MOST, MOST, MOST, 32767, HIGHEST, 1);
        BatchBytes x = Made.withRecords(1000);
        x.seal(MOST, 32767, HIGHEST, 1L << 49);
        head("the most that seal() makes", x, 1L << 49, 99 + (1L << 49), MOST, 32767, HIGHEST, 1000);
    }

    private static void headOfNoneOfThese() {
        Dues.by("head: what = 0 .. 5 .. (In all calls illegal argument: a number is out of its bounds)");
        BatchBytes x = Made.withRecords(2);
        x.seal(0, 0, 0, 0);
        int[] bad = {LOWEST, -1, 6, HIGHEST};
        for (int what : bad) {
            Dues.due("head(" + what + ")", () -> x.head(what), Dues.ARGUMENT);
        }
        head("the bounds themselves", x, 0, 1, 0, 0, 0, 2);
    }

    /** A tape with a fault of this kind alone; 0 for none. */
    private static BatchBytes withFault(int kind) {
        BatchBytes x = Made.withRecords(2);
        x.seal(0, 0, 0, 0);
        switch (kind) {
            case 1: x.feed(0, 0, 0, 0, 0); break;
            case 2: x.spoil(16, 1); break;
            case 3: x.spoil(20, 1); break;
            case 4: x.spoil(67, 1); x.check(); break;
            case 5: x.spoil(42, 8); x.check(); break;
            default:
        }
        Dues.due("the tape has the fault " + kind, () -> x.fault(0), kind);
        return x;
    }

    private static void headOfAFaultyTape() {
        Dues.by("head: Of the tape, if it has no fault .. Illegal argument: also if it has one");
        for (int kind = 1; kind <= 5; kind++) {
            BatchBytes x = withFault(kind);
            for (int i = -1; i <= 6; i++) {
                int what = i;
                Dues.due("head(" + what + ") with the fault " + kind, () -> x.head(what), Dues.ARGUMENT);
            }
        }
        head("without a fault", withFault(0), 0, 1, 0, 0, 0, 2);
        BatchBytes x = withFault(3);
        Dues.due("head(5) before it is mended", () -> x.head(5), Dues.ARGUMENT);
        x.check();
        Dues.due("head(5) when it is mended", () -> x.head(5), 2);
        x.trim(x.size());
        Dues.due("head(5) of an empty tape", () -> x.head(5), Dues.ARGUMENT);
    }

    private static void placesOfRecords() {
        Dues.by("told: what = 0 its first byte's place");
        BatchBytes x = new BatchBytes();
        x.record(1, 0, 8, 0, 300, 64);
        x.record(2, 0, -1, 0, -1, 0);
        x.record(1, 0, 0, 0, 0, 0);
        x.seal(0, 0, 0, 0);
        int[] places = {61, 61 + 318, 61 + 325, 61 + 332};
        for (int k = 0; k < places.length; k++) {
            told("places", x, k, places[k]);
        }
    }

    private static void timesOfRecords() {
        Dues.by("told: what = .. 1 its time");
        Bytes two = new Bytes().add(Bytes.record(-MOST, 0, null, null)).add(Bytes.record(-1, 1, null, null));
        BatchBytes x = Made.withTape(Bytes.batch(2, MOST, MOST - 1, two));
        told("2^50 earlier", x, 0, 61, 0);
        told("1 earlier", x, 1, 61 + 14, MOST - 1);
        BatchBytes y = Made.withTape(Bytes.batch(1, 0, MOST, Bytes.record(MOST, 0, null, null)));
        told("2^50 later", y, 0, 61, MOST);
        BatchBytes z = Made.withTape(Bytes.batch(1, MOST, MOST, Bytes.record(0, 0, null, null)));
        told("at the first time", z, 0, 61, MOST);
    }

    private static int[] counted(int first, int n) {
        int[] bytes = new int[n];
        for (int i = 0; i < n; i++) {
            bytes[i] = first + i & 255;
        }
        return bytes;
    }

    private static BatchBytes withKey(int[] key) {
        return Made.withTape(Bytes.batch(1, 0, 0, Bytes.record(0, 0, key, new int[] {9, 9, 9, 9, 9, 9, 9, 9, 9})));
    }

    private static BatchBytes withValue(int[] value) {
        return Made.withTape(Bytes.batch(1, 0, 0, Bytes.record(0, 0, new int[] {9, 9, 9, 9, 9, 9, 9, 9, 9}, value)));
    }

    private static final int[] LENGTHS = {0, 1, 7, 8, 9, 63, 64, 300, 301, 8191, 8192};

    private static void keysLengths() {
        Dues.by("told: what = .. 2 how many bytes its key has (NONE for none)");
        for (int length : LENGTHS) {
            Dues.due("a key of " + length, () -> withKey(counted(1, length)).told(0, 2), length);
        }
        Dues.due("no key", () -> withKey(null).told(0, 2), BatchBytes.NONE);
    }

    private static final int[] NUMBER_LENGTHS = {0, 1, 2, 4, 7, 8, 9, 300};
    private static final long[] COUNTED_FROM_1 = {
        0, 1, 0x0102, 0x01020304, 0x01020304050607L, 0x0102030405060708L, 0x0102030405060708L, 0x0102030405060708L
    };
    private static final long[] COUNTED_FROM_248 = {
        0, 0xF8, 0xF8F9, 0xF8F9FAFBL, 0xF8F9FAFBFCFDFEL, 0xF8F9FAFBFCFDFEFFL, 0xF8F9FAFBFCFDFEFFL, 0xF8F9FAFBFCFDFEFFL
    };

    private static void keysNumbers() {
        Dues.by("told: what = .. 3 the number of the first eight bytes of its key (or all, the highest first; 0 for none)");
        for (int i = 0; i < NUMBER_LENGTHS.length; i++) {
            int length = NUMBER_LENGTHS[i];
            Dues.due("low key of " + length, () -> withKey(counted(1, length)).told(0, 3), COUNTED_FROM_1[i]);
            Dues.due("high key of " + length, () -> withKey(counted(248, length)).told(0, 3), COUNTED_FROM_248[i]);
        }
        Dues.due("no key", () -> withKey(null).told(0, 3), 0);
    }

    private static void valuesLengths() {
        Dues.by("told: what = .. 4 how many bytes its value has (NONE for none)");
        for (int length : LENGTHS) {
            Dues.due("a value of " + length, () -> withValue(counted(1, length)).told(0, 4), length);
        }
        Dues.due("no value", () -> withValue(null).told(0, 4), BatchBytes.NONE);
    }

    private static void valuesNumbers() {
        Dues.by("told: what = .. 5 the number of the first eight of these likewise");
        for (int i = 0; i < NUMBER_LENGTHS.length; i++) {
            int length = NUMBER_LENGTHS[i];
            Dues.due("low value of " + length, () -> withValue(counted(1, length)).told(0, 5), COUNTED_FROM_1[i]);
            Dues.due("high value of " + length, () -> withValue(counted(248, length)).told(0, 5), COUNTED_FROM_248[i]);
        }
        Dues.due("no value", () -> withValue(null).told(0, 5), 0);
    }

    private static void recordsInAnyOrder() {
        Dues.by("told: Of record k (from 0) of the tape");
        BatchBytes x = new BatchBytes();
        x.record(2, 255, 1, 0x0102030405060708L, 9, 3);
        x.record(1, -2, 8, -1, 8, 0);
        x.record(1, 0x0102030405060708L, 7, 0x80, 1, 1000000);
        x.record(1, 5, 0, 5, 0, 1);
        x.record(1, 5, -1, 5, -1, 2);
        x.seal(-1, -1, -1, 100);
        told("none", x, 5, 142, 102, -1, 0, -1, 0);
        told("key 255", x, 0, 61, 103, 1, 255, 9, 0x0807060504030201L);
        told("empty ones", x, 4, 135, 101, 0, 0, 0, 0);
        told("key 0", x, 1, 78, 104, 1, 0, 9, 0x0907060504030201L);
        told("seven bytes", x, 3, 118, 1000100, 7, 0x02030405060708L, 1, 0x80);
        told("eight bytes", x, 2, 95, 100, 8, -2, 8, -1);
        told("eight bytes again", x, 2, 95, 100, 8, -2, 8, -1);
    }

    private static void toldOfAFaultyTape() {
        Dues.by("told: .. if it has no fault .. Illegal argument: also if it has one");
        for (int kind = 1; kind <= 5; kind++) {
            BatchBytes x = withFault(kind);
            for (int i = -1; i <= 6; i++) {
                int what = i;
                Dues.due("told(0, " + what + ") with the fault " + kind, () -> x.told(0, what), Dues.ARGUMENT);
                Dues.due("told(2, " + what + ") with the fault " + kind, () -> x.told(2, what), Dues.ARGUMENT);
            }
        }
        told("without a fault", withFault(0), 1, 68, 1, -1, 0, -1, 0);
        BatchBytes x = withFault(3);
        Dues.due("told(1, 0) before it is mended", () -> x.told(1, 0), Dues.ARGUMENT);
        x.check();
        Dues.due("told(1, 0) when it is mended", () -> x.told(1, 0), 68);
        x.trim(x.size());
        Dues.due("told(0, 0) of an empty tape", () -> x.told(0, 0), Dues.ARGUMENT);
    }

    private static void toldOfNoSuchRecord() {
        Dues.by("told: Illegal argument: .. or no such record");
        int[] counts = {1, 2, 1000};
        for (int count : counts) {
            BatchBytes x = Made.withRecords(count);
            x.seal(0, 0, 0, 0);
            int[] bad = {LOWEST, -1, count, count + 1, HIGHEST};
            for (int k : bad) {
                Dues.due("told(" + k + ", 2) of " + count, () -> x.told(k, 2), Dues.ARGUMENT);
                Dues.due("told(" + k + ", 6) of " + count, () -> x.told(k, 6), Dues.ARGUMENT);
            }
            Dues.due("told(0, 2) of " + count, () -> x.told(0, 2), -1);
            Dues.due("told of the last of " + count, () -> x.told(count - 1, 2), -1);
        }
    }

    private static void toldOfNoneOfThese() {
        Dues.by("told: Illegal argument: .. or what is none of these");
        BatchBytes x = Made.withRecords(1);
        x.seal(0, 0, 0, 0);
        int[] bad = {LOWEST, -1, 6, HIGHEST};
        for (int what : bad) {
            Dues.due("told(0, " + what + ")", () -> x.told(0, what), Dues.ARGUMENT);
        }
        told("the bounds themselves", x, 0, 61, 0, -1, 0, -1, 0);
    }

    /** Fifty records, the last of which is written by hand so that the tape is full to its last byte. */
    private static void greatestBatchOfAll() {
        Dues.by("THE TAPE has bytes, 16384 at most. It is a batch if it has no FAULT");
        BatchBytes x = new BatchBytes();
        Made.fifty(x);
        x.seal(0, 0, 0, 0);
        Bytes last = Bytes.record(0, 49, null, counted(5, 781));
        // The 49 others end at 15594; twenties lead to 16384 from 15584 on, ten bytes before that.
        x.trim(317);
        Bytes tail = new Bytes();
        for (int i = 15584; i < 15594; i++) {
            tail.add(x.byteAt(i));
        }
        x.trim(10);
        tail.add(last).feedTo(x);
        Dues.due("size()", () -> x.size(), 16384);
        Made.set(x, 8, 16372, 4);
        x.check();
        Dues.due("fault(0)", () -> x.fault(0), 5);
        Made.set(x, 35, 48, 8);
        x.check();
        Dues.due("fault(0)", () -> x.fault(0), 0);
        told("the last record", x, 49, 15594, 0, -1, 0, 781, 0x05060708090A0B0CL);
        x.spoil(16383, 1);
        x.check();
        Dues.due("fault(0) with another last byte", () -> x.fault(0), 4);
        Dues.due("fault(1) with another last byte", () -> x.fault(1), 15594);
    }
}
