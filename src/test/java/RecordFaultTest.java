import java.math.BigInteger;

/** The terms' records and the fault RECORD; a method for each sentence. */
public final class RecordFaultTest {
    private static final long MOST = 1L << 50;

    /** A record's five varints, in the least record: 12 0 0 0 1 1 0. */
    private static final int[] VARINTS_OF_THE_LEAST = {0, 2, 3, 4, 5};

    public static void main(String[] args) {
        bytesBehindItsLength();
        recordWithinTheBatch();
        firstByteIsZero();
        numbersInOrder();
        keysLength();
        valuesLength();
        lastByteIsZero();
        recordsOfEveryCut();
        varintsWithoutNeedlessPieces();
        varintsOfTenPieces();
        varintsWithoutAnEnd();
        timeOutOfBounds();
        timesSumDoesNotWrap();
        firstWrongRecordCounts();
        bytesBehindTheLastRecord();
        tooFewRecords();
        Dues.end();
    }

    private static void one(String name, Bytes record, boolean holds) {
        FaultTest.due(name, Bytes.batch(1, 0, 0, record), holds ? 0 : 4, holds ? -1 : 61);
    }

    /** What the least record has behind its length. */
    private static Bytes body() {
        return new Bytes().add(0, 0, 0, 1, 1, 0);
    }

    private static void bytesBehindItsLength() {
        Dues.by("RECORDS, each: how many bytes it has behind this (varint) .. does not end where it says");
        long[] wrong = {Long.MIN_VALUE, -7, -6, -1, 0, 1, 5, 7, 6 + 256, 6 + (1L << 32), 6 - (1L << 32), Long.MAX_VALUE};
        for (long length : wrong) {
            one("length " + length + " for 6", new Bytes().varint(length).add(body()), false);
        }
        one("length 6", new Bytes().varint(6).add(body()), true);
        one("length 7 with a byte of its own more", new Bytes().varint(7).add(body()).add(0), false);
        one("length 5 without its last byte", new Bytes().varint(5).add(0, 0, 0, 1, 1), false);
        int[] values = {56, 57, 58, 8183, 8184, 8185};
        for (int value : values) {
            Bytes right = Bytes.record(0, 0, null, new int[value]);
            one("a value of " + value, right, true);
            Bytes body = new Bytes().add(0, 0, 0, 1).varint(value).add(new int[value]).add(0);
            one("a value of " + value + ", length 1 less", new Bytes().varint(body.size() - 1).add(body), false);
            one("a value of " + value + ", length 1 more", new Bytes().varint(body.size() + 1).add(body), false);
        }
    }

    private static void recordWithinTheBatch() {
        Dues.by("4 RECORD .. does not end where it says and within the batch");
        one("to the batch's last byte", new Bytes().varint(6).add(body()), true);
        one("one byte beyond", new Bytes().varint(7).add(0, 0, 0, 1, 2, 9), false);
        one("with its last byte beyond", new Bytes().varint(6).add(0, 0, 0, 1, 1), false);
        one("all but its length beyond", new Bytes().varint(6), false);
        one("no length", new Bytes(), false);
        // The bytes that would follow stand behind the tape's end: they went by trim().
        Bytes whole = Bytes.batch(1, 0, 0, Bytes.framed(body()));
        for (int cut = 1; cut <= 7; cut++) {
            BatchBytes x = Made.withTape(whole);
            x.trim(cut);
            Made.set(x, 8, 56 - cut, 4);
            x.check();
            Dues.due("trimmed by " + cut + ": fault(0)", () -> x.fault(0), 4);
            Dues.due("trimmed by " + cut + ": fault(1)", () -> x.fault(1), 61);
        }
    }

    private static void firstByteIsZero() {
        Dues.by("RECORDS, each: .. a byte 0, its time less FIRST TIME");
        int[] wrong = {1, 2, 127, 128, 255};
        for (int b : wrong) {
            Bytes body = body();
            body.set(0, b);
            one("its first byte " + b, Bytes.framed(body), false);
        }
        one("its first byte 0", Bytes.framed(body()), true);
    }

    private static void numbersInOrder() {
        Dues.by("RECORDS, each: .. its number (varint; 0, 1, ..)");
        long[] wrong = {Long.MIN_VALUE, -1, 1, 2, 256, 1L << 32, Long.MAX_VALUE};
        for (long n : wrong) {
            one("number " + n, Bytes.framed(new Bytes().add(0, 0).varint(n).add(1, 1, 0)), false);
        }
        numbers("0, 1, 2", -1, 0, 1, 2);
        numbers("0, 0, 2", 68, 0, 0, 2);
        numbers("0, 2, 1", 68, 0, 2, 1);
        numbers("0, 1, 1", 75, 0, 1, 1);
        numbers("0, 1, 3", 75, 0, 1, 3);
        numbers("1, 2, 3", 61, 1, 2, 3);
        numbers("1, 0", 61, 1, 0);
        numbers("0, -1", 68, 0, -1);
        int[] upTo66 = new int[66];
        for (int i = 0; i < 66; i++) {
            upTo66[i] = i;
        }
        numbers("up to 65", -1, upTo66);
        upTo66[64] = 63;
        numbers("63 twice", 61 + 64 * 7, upTo66);
    }

    private static void numbers(String name, int at, int... numbers) {
        Bytes records = new Bytes();
        for (int n : numbers) {
            records.add(Bytes.record(0, n, null, null));
        }
        FaultTest.due("numbers " + name, Bytes.batch(numbers.length, 0, 0, records), at < 0 ? 0 : 4, at);
    }

    private static Bytes parts(long keyLength, Bytes key, long valueLength, Bytes value) {
        return Bytes.framed(new Bytes().add(0, 0, 0)
            .varint(keyLength).add(key).varint(valueLength).add(value).add(0));
    }

    /** Bytes of which none could be the next part's length or the record's last byte. */
    private static Bytes filled(int n) {
        Bytes b = new Bytes();
        for (int i = 0; i < n; i++) {
            b.add(250);
        }
        return b;
    }

    private static void keysLength() {
        Dues.by("RECORDS, each: .. how many bytes its KEY has (varint; -1: it has none), these");
        Bytes three = filled(3);
        int[] lengths = {0, 1, 3, 63, 64, 8191, 8192};
        for (int length : lengths) {
            // One less than 0 tells that there is none, and there is none.
            one("a key of " + length, parts(length, filled(length), 3, three), true);
            one("a key of " + length + ", told one less", parts(length - 1, filled(length), 3, three), length == 0);
            one("a key of " + length + ", told one more", parts(length + 1, filled(length), 3, three), false);
        }
        one("no key", parts(-1, new Bytes(), 3, three), true);
        one("no key told, but bytes", parts(-1, three, 3, three), false);
        long[] wrong = {Long.MIN_VALUE, -(1L << 32), -3, -2, 8, 9, 10, 1L << 31, (1L << 32) - 1, 1L << 32, (1L << 32) + 3, Long.MAX_VALUE};
        for (long length : wrong) {
            one("a key of " + length + " told for 3", parts(length, three, 3, three), false);
            one("a key of " + length + " told for none", parts(length, new Bytes(), 3, three), false);
        }
    }

    private static void valuesLength() {
        Dues.by("RECORDS, each: .. how many its VALUE has (varint; -1: none), these");
        Bytes three = filled(3);
        int[] lengths = {0, 1, 3, 63, 64, 8191, 8192};
        for (int length : lengths) {
            one("a value of " + length, parts(3, three, length, filled(length)), true);
            one("a value of " + length + ", told one less", parts(3, three, length - 1, filled(length)), length == 0);
            one("a value of " + length + ", told one more", parts(3, three, length + 1, filled(length)), false);
        }
        one("no value", parts(3, three, -1, new Bytes()), true);
        one("no value told, but bytes", parts(3, three, -1, three), false);
        long[] wrong = {Long.MIN_VALUE, -(1L << 32), -3, -2, 5, 6, 1L << 31, (1L << 32) - 1, 1L << 32, (1L << 32) + 3, Long.MAX_VALUE};
        for (long length : wrong) {
            one("a value of " + length + " told for 3", parts(3, three, length, three), false);
            one("a value of " + length + " told for none", parts(3, three, length, new Bytes()), false);
        }
        Bytes next = Bytes.record(0, 1, null, null);
        Bytes beyond = new Bytes().add(parts(3, three, 6, three)).add(next);
        FaultTest.due("a value into the next record", Bytes.batch(2, 0, 0, beyond), 4, 61);
    }

    private static void lastByteIsZero() {
        Dues.by("RECORDS, each: .. these, a byte 0");
        int[] wrong = {1, 2, 127, 128, 255};
        for (int b : wrong) {
            Bytes body = body();
            body.set(5, b);
            one("its last byte " + b, Bytes.framed(body), false);
        }
        one("its last byte 0", Bytes.framed(body()), true);
        one("two such bytes", Bytes.framed(body().add(0)), false);
    }

    private static void recordsOfEveryCut() {
        Dues.by("4 RECORD, at the first byte of the first record that is not as said");
        Bytes whole = new Bytes().add(0, 0, 0).varint(3).add(1, 2, 3).varint(2).add(4, 5).add(0);
        one("a whole one", Bytes.framed(whole), true);
        for (int cut = 1; cut <= whole.size(); cut++) {
            Bytes b = new Bytes().add(whole);
            b.cut(cut);
            one("cut by " + cut + ", with its length right", Bytes.framed(b), false);
            one("cut by " + cut + ", with the length it had", new Bytes().varint(whole.size()).add(b), false);
        }
    }

    private static void varintsWithoutNeedlessPieces() {
        Dues.by("A VARINT ..; no more pieces than are needed (1 for 0 ..)");
        Bytes least = Bytes.framed(body());
        one("each varint of one piece", least, true);
        for (int place : VARINTS_OF_THE_LEAST) {
            for (int more = 1; more <= 9; more++) {
                Bytes longer = new Bytes();
                for (int i = 0; i < least.size(); i++) {
                    longer.add(i == place ? least.get(i) | 128 : least.get(i));
                    for (int k = 1; i == place && k <= more; k++) {
                        longer.add(k < more ? 128 : 0);
                    }
                }
                longer.set(0, place == 0 ? longer.get(0) : 12 + 2 * more);
                one("the varint at " + place + " with " + more + " needless pieces", longer, false);
            }
        }
        timed("63, in one piece", true, 63, 126);
        timed("63, in two", false, 63, 254, 0);
        timed("64, in two pieces", true, 64, 128, 1);
        timed("64, in three", false, 64, 128, 129, 0);
        timed("8191, in two pieces", true, 8191, 254, 127);
        timed("8192, in three pieces", true, 8192, 128, 128, 1);
        timed("8192, in four", false, 8192, 128, 128, 129, 0);
    }

    /** A record whose time's difference to FIRST TIME, 0, has these pieces. */
    private static void timed(String name, boolean holds, long time, int... pieces) {
        Bytes record = Bytes.framed(new Bytes().add(0).add(pieces).add(0, 1, 1, 0));
        FaultTest.due(name, Bytes.batch(1, 0, time, record), holds ? 0 : 4, holds ? -1 : 61);
    }

    private static void varintsOfTenPieces() {
        Dues.by("A VARINT .. ten at most");
        int[] nine = {128, 128, 128, 128, 128, 128, 128, 128, 128};
        int[] lasts = {0, 1, 2, 64, 127};
        for (int last : lasts) {
            Bytes ten = new Bytes().add(nine).add(last);
            Bytes six = new Bytes().add(140, 128, 128, 128, 128, 128, 128, 128, 128, last);
            one("a length in ten with " + last, six.add(body()), false);
            one("a time in ten with " + last, Bytes.framed(new Bytes().add(0).add(ten).add(0, 1, 1, 0)), false);
            one("a number in ten with " + last, Bytes.framed(new Bytes().add(0, 0).add(ten).add(1, 1, 0)), false);
            one("a key's length in ten with " + last, Bytes.framed(new Bytes().add(0, 0, 0).add(ten).add(1, 0)), false);
            one("a value's length in ten with " + last, Bytes.framed(new Bytes().add(0, 0, 0, 1).add(ten).add(0)), false);
        }
        Bytes eleven = new Bytes().add(nine).add(128, 1);
        one("a time in eleven", Bytes.framed(new Bytes().add(0).add(eleven).add(0, 1, 1, 0)), false);
        // What 64 bits would keep of these is 0.
        BigInteger round = BigInteger.ONE.shiftLeft(63);
        one("a time of 2^63", Bytes.framed(new Bytes().add(0).varint(round).add(0, 1, 1, 0)), false);
        one("a number of 2^63", Bytes.framed(new Bytes().add(0, 0).varint(round).add(1, 1, 0)), false);
        BigInteger twice = BigInteger.ONE.shiftLeft(64);
        one("a time of 2^64", Bytes.framed(new Bytes().add(0).varint(twice).add(0, 1, 1, 0)), false);
        one("a number of 2^64", Bytes.framed(new Bytes().add(0, 0).varint(twice).add(1, 1, 0)), false);
        one("a key's length of 2^64", Bytes.framed(new Bytes().add(0, 0, 0).varint(twice).add(1, 0)), false);
    }

    private static void varintsWithoutAnEnd() {
        Dues.by("A VARINT .. with 128 more in all but the last one");
        one("pieces to the record's end", Bytes.framed(new Bytes().add(0, 128, 128, 128)), false);
        one("pieces to the tape's end", new Bytes().add(128, 128, 128, 128, 128), false);
        one("one piece to the tape's end", new Bytes().add(140), false);
        Bytes many = new Bytes();
        for (int i = 0; i < 300; i++) {
            many.add(128);
        }
        one("300 pieces", many, false);
        // Each of these would be sound if the ten pieces counted as the number 0 that their bits have.
        Bytes ten = new Bytes().add(128, 128, 128, 128, 128, 128, 128, 128, 128, 128);
        one("a time without a last piece", Bytes.framed(new Bytes().add(0).add(ten).add(0, 1, 1, 0)), false);
        one("a number without a last piece", Bytes.framed(new Bytes().add(0, 0).add(ten).add(1, 1, 0)), false);
        one("a key's length without a last piece", Bytes.framed(new Bytes().add(0, 0, 0).add(ten).add(1, 0)), false);
        one("a value's length without a last piece", Bytes.framed(new Bytes().add(0, 0, 0, 1).add(ten).add(0)), false);
        Bytes two = new Bytes().add(2 * 4, 0, 0, 0, 129).add(Bytes.record(0, 1, null, null));
        FaultTest.due("a piece whose last one is in the next record", Bytes.batch(2, 0, 0, two), 4, 61);
    }

    private static void time(long firstTime, long difference, boolean holds) {
        long greatest = holds ? firstTime + difference : 0;
        FaultTest.due("first time " + firstTime + " and " + difference,
            Bytes.batch(1, firstTime, greatest, Bytes.record(difference, 0, null, null)), holds ? 0 : 4, holds ? -1 : 61);
    }

    private static void timeOutOfBounds() {
        Dues.by("4 RECORD .. or has a time that is not 0 .. 2^50");
        long[] firsts = {0, 1, 1000, 1L << 49, MOST - 1, MOST};
        for (long first : firsts) {
            time(first, -first - 1, false);
            time(first, -first, true);
            time(first, 0, true);
            time(first, MOST - first, true);
            time(first, MOST - first + 1, false);
        }
    }

    private static void timesSumDoesNotWrap() {
        Dues.by("4 RECORD .. (its difference to FIRST TIME being any 64-bit number, the sum not wrapping)");
        long[] firsts = {0, 1, 5, MOST};
        long[] far = {Long.MIN_VALUE, Long.MIN_VALUE + 1, Long.MAX_VALUE, Long.MAX_VALUE - 1, 1L << 62, -(1L << 62), 1L << 51, -(1L << 51)};
        for (long first : firsts) {
            for (long difference : far) {
                time(first, difference, false);
            }
            time(first, Long.MAX_VALUE - first, false);
            time(first, first == 0 ? Long.MAX_VALUE : Long.MAX_VALUE - first + 1, false);
            // Cut to 32 bits these would be 0.
            time(first, (1L << 60) - first, false);
            time(first, -(1L << 60) - first, false);
        }
    }

    private static void firstWrongRecordCounts() {
        Dues.by("4 RECORD, at the first byte of the first record that ..");
        for (int wrong = 0; wrong < 16; wrong++) {
            Bytes records = new Bytes();
            int first = -1;
            for (int i = 0; i < 4; i++) {
                boolean bad = (wrong >> i & 1) == 1;
                first = bad && first < 0 ? 61 + records.size() : first;
                Bytes record = Bytes.record(0, i, new int[i], null);
                record.set(1, bad ? 1 : 0);
                records.add(record);
            }
            FaultTest.due("wrong ones " + Integer.toBinaryString(wrong), Bytes.batch(4, 0, 0, records), first < 0 ? 0 : 4, first);
        }
    }

    private static void bytesBehindTheLastRecord() {
        Dues.by("4 RECORD .. or at the byte behind the last one, if there is one");
        Bytes least = Bytes.framed(body());
        FaultTest.due("no byte behind", Bytes.batch(1, 0, 0, least), 0, -1);
        FaultTest.due("a byte 0 behind", Bytes.batch(1, 0, 0, new Bytes().add(least).add(0)), 4, 68);
        FaultTest.due("a byte 255 behind", Bytes.batch(1, 0, 0, new Bytes().add(least).add(255)), 4, 68);
        Bytes two = new Bytes().add(least).add(Bytes.record(0, 1, null, null));
        FaultTest.due("a record behind", Bytes.batch(1, 0, 0, two), 4, 68);
        FaultTest.due("a byte behind two", Bytes.batch(2, 0, 0, new Bytes().add(two).add(9)), 4, 75);
        FaultTest.due("a wrong record and a byte behind", Bytes.batch(3, 0, 0, new Bytes().add(two).add(9)), 4, 75);
    }

    /** Read most plainly: the record that is not there would begin at the tape's end. */
    private static void tooFewRecords() {
        Dues.by("4 RECORD, at the first byte of the first record that is not as said ..");
        Bytes least = Bytes.framed(body());
        FaultTest.due("one of two", Bytes.batch(2, 0, 0, least), 4, 68);
        FaultTest.due("none of one", Bytes.batch(1, 0, 0, new Bytes()), 4, 61);
        FaultTest.due("one of 1000", Bytes.batch(1000, 0, 0, least), 4, 68);
    }
}
