/** The terms' five faults and promise 11, fault; a method for each sentence. What a record may be: RecordFaultTest. */
public final class FaultTest {
    private static final long MOST = 1L << 50;
    private static final int[] FIELD_PLACES = {0, 12, 16, 21, 23, 27, 35, 43, 51, 53, 57};

    public static void main(String[] args) {
        whatIsNoneOfThese();
        noneForNone();
        lessThanAHead();
        lengthIsNotTwelveLess();
        lengthOfAFullTape();
        baseIsNotZero();
        termIsNotZero();
        markIsNotTwo();
        flagsAreNotZero();
        lastIsNotCountLessOne();
        lastAsAWholeNumber();
        firstTimeOutOfBounds();
        greatestTimeOutOfBounds();
        producerOutOfBounds();
        epochWithoutProducer();
        epochOfAProducer();
        sequenceWithoutProducer();
        sequenceOfAProducer();
        countOutOfBounds();
        firstFieldFromTheLeft();
        checksumIsAnother();
        timeIsNotTheGreatest();
        firstKindCounts();
        everyCallThatChangesTheTapeChangesItsFault();
        Dues.end();
    }

    static void due(String name, Bytes tape, int kind, int place) {
        BatchBytes x = Made.withTape(tape);
        Dues.due(name + ": fault(0)", () -> x.fault(0), kind);
        Dues.due(name + ": fault(1)", () -> x.fault(1), place);
        Dues.due(name + ": fault(0) again", () -> x.fault(0), kind);
        Dues.due(name + ": head(5)", () -> x.head(5) < 1 ? 0 : 1, kind == 0 ? "1" : Dues.ARGUMENT);
        Dues.due(name + ": told(0, 0)", () -> x.told(0, 0), kind == 0 ? "61" : Dues.ARGUMENT);
    }

    /** Its records begin at 61 and at 71; it has 79 bytes. */
    private static Bytes sound() {
        return Bytes.batch(2, 1000, 1007, new Bytes()
            .add(Bytes.record(7, 0, new int[] {1, 2}, new int[] {3}))
            .add(Bytes.record(-1000, 1, null, new int[0])));
    }

    private static void whatIsNoneOfThese() {
        Dues.by("fault: Illegal argument: what is none of these");
        int[] bad = {Integer.MIN_VALUE, -1, 2, Integer.MAX_VALUE};
        BatchBytes faulty = new BatchBytes();
        BatchBytes fine = Made.withTape(sound());
        for (int what : bad) {
            Dues.due("fault(" + what + ") with a fault", () -> faulty.fault(what), Dues.ARGUMENT);
            Dues.due("fault(" + what + ") without", () -> fine.fault(what), Dues.ARGUMENT);
        }
        Dues.due("fault(0)", () -> faulty.fault(0), 1);
        Dues.due("fault(1)", () -> faulty.fault(1), 8);
    }

    private static void noneForNone() {
        Dues.by("fault: what = 0 the kind of its fault, 0 for none; 1 where it is, NONE for none");
        due("a sound batch", sound(), 0, BatchBytes.NONE);
        Bytes spoiled = sound();
        spoiled.set(16, 3);
        due("a spoiled one", spoiled, 2, 16);
    }

    private static Bytes zeros(int n) {
        Bytes b = new Bytes();
        for (int i = 0; i < n; i++) {
            b.add(0);
        }
        return b;
    }

    private static void lessThanAHead() {
        Dues.by("1 LENGTH, at 8: it has less than 61 bytes");
        int[] few = {0, 1, 8, 9, 11, 12, 20, 21, 59, 60};
        for (int n : few) {
            Bytes b = zeros(n);
            if (n >= 12) {
                b.setNumber(8, n - 12, 4);
            }
            due(n + " bytes", b, 1, 8);
        }
        Bytes head = zeros(61);
        head.setNumber(8, 49, 4);
        due("61 bytes", head, 2, 16);
        Bytes sixty = sound();
        sixty.cut(19);
        sixty.setNumber(8, 48, 4);
        due("60 bytes, all right", sixty.rightened(), 1, 8);
    }

    private static void lengthIsNotTwelveLess() {
        Dues.by("1 LENGTH, at 8: .. or LENGTH is not 12 less than it has");
        long[] wrong = {0, 1, 61, 66, 68, 78, 79, 80, 91, -1, 67 + 256, 67 + 65536, 67 + (1L << 24), 67 + (1L << 31), -67};
        for (long length : wrong) {
            Bytes b = sound();
            b.setNumber(8, length, 4);
            due("LENGTH " + length + " of 79 bytes", b.rightened(), 1, 8);
        }
        Bytes right = sound();
        right.setNumber(8, 67, 4);
        due("LENGTH 67 of 79 bytes", right.rightened(), 0, -1);
        due("one byte more", sound().add(0), 1, 8);
        Bytes less = sound();
        less.cut(1);
        due("one byte less", less, 1, 8);
        Bytes head = Bytes.batch(0, 0, 0, new Bytes());
        due("LENGTH 49 of 61 bytes", head, 2, 57);
        head.setNumber(8, 48, 4);
        due("LENGTH 48 of 61 bytes", head, 1, 8);
        head.setNumber(8, 50, 4);
        due("LENGTH 50 of 61 bytes", head, 1, 8);
    }

    private static void lengthOfAFullTape() {
        Dues.by("1 LENGTH, at 8: .. or LENGTH is not 12 less than it has");
        BatchBytes x = Made.withBytes(16384);
        Dues.due("LENGTH as sealed", () -> x.fault(0), 1);
        Made.set(x, 8, 16373, 4);
        Dues.due("LENGTH 16373 of 16384 bytes", () -> x.fault(0), 1);
        Made.set(x, 8, 16371, 4);
        Dues.due("LENGTH 16371 of 16384 bytes", () -> x.fault(0), 1);
        Made.set(x, 8, 16372, 4);
        Dues.due("LENGTH 16372 of 16384 bytes", () -> x.fault(0), 3);
    }

    private static void field(int place, int bytes, long v, int kind, int at) {
        Bytes b = sound();
        b.setNumber(place, v, bytes);
        due("the field at " + place + " is " + v, b.rightened(), kind, at);
    }

    /** Each of the field's bits alone is turned, from a number in which it is right. */
    private static void eachBit(int place, int bytes, long right) {
        for (int bit = 0; bit < 8 * bytes; bit++) {
            field(place, bytes, right ^ 1L << bit, 2, place);
        }
        field(place, bytes, right, 0, -1);
    }

    private static void baseIsNotZero() {
        Dues.by("2 FIELD .. BASE is not 0");
        eachBit(0, 8, 0);
        field(0, 8, -1, 2, 0);
    }

    private static void termIsNotZero() {
        Dues.by("2 FIELD .. TERM not 0");
        eachBit(12, 4, 0);
        field(12, 4, -1, 2, 12);
    }

    private static void markIsNotTwo() {
        Dues.by("2 FIELD .. MARK not 2");
        eachBit(16, 1, 2);
        field(16, 1, 1, 2, 16);
        field(16, 1, 255, 2, 16);
    }

    private static void flagsAreNotZero() {
        Dues.by("2 FIELD .. FLAGS not 0");
        eachBit(21, 2, 0);
        field(21, 2, -1, 2, 21);
    }

    private static void lastIsNotCountLessOne() {
        Dues.by("2 FIELD .. LAST not COUNT - 1");
        eachBit(23, 4, 1);
        field(23, 4, 2, 2, 23);
        field(23, 4, -1, 2, 23);
        field(23, 4, -2, 2, 23);
        count(0, 2, 2, 23);
        count(1, 1, 2, 23);
        count(0, 0, 2, 23);
        count(1, 0, 2, 23);
        count(1001, 1001, 2, 23);
    }

    private static void lastAsAWholeNumber() {
        Dues.by("2 FIELD .. LAST not COUNT - 1 (as whole numbers)");
        count(Integer.MAX_VALUE, Integer.MIN_VALUE, 2, 23);
        count(Integer.MAX_VALUE - 1, Integer.MAX_VALUE, 2, 57);
        count(Integer.MIN_VALUE, Integer.MIN_VALUE + 1, 2, 57);
        count(-1, 0, 2, 57);
        count(-2, -1, 2, 57);
    }

    private static void firstTimeOutOfBounds() {
        Dues.by("2 FIELD .. FIRST TIME not 0 .. 2^50");
        field(27, 8, -1, 2, 27);
        field(27, 8, Long.MIN_VALUE, 2, 27);
        field(27, 8, MOST + 1, 2, 27);
        field(27, 8, MOST * 2, 2, 27);
        field(27, 8, Long.MAX_VALUE, 2, 27);
        times(0, 0, 0);
        times(MOST, 0, MOST);
        // In bounds, but then a record's time is not: 0 less 1000, and 2^50 and 7 more.
        field(27, 8, 0, 4, 71);
        field(27, 8, MOST, 4, 61);
    }

    private static void times(long first, long difference, long greatest) {
        due("times " + first + ", " + greatest,
            Bytes.batch(1, first, greatest, Bytes.record(difference, 0, null, null)), 0, -1);
    }

    private static void greatestTimeOutOfBounds() {
        Dues.by("2 FIELD .. GREATEST TIME likewise");
        field(35, 8, -1, 2, 35);
        field(35, 8, Long.MIN_VALUE, 2, 35);
        field(35, 8, MOST + 1, 2, 35);
        field(35, 8, Long.MAX_VALUE, 2, 35);
        // In bounds, but not the greatest of the records.
        field(35, 8, 0, 5, 35);
        field(35, 8, MOST, 5, 35);
        times(5, -5, 0);
        times(0, MOST, MOST);
    }

    private static void producer(long producer, int epoch, int sequence, int kind, int at) {
        Bytes b = sound();
        b.setNumber(43, producer, 8);
        b.setNumber(51, epoch, 2);
        b.setNumber(53, sequence, 4);
        due("producer " + producer + ", " + epoch + ", " + sequence, b.rightened(), kind, at);
    }

    private static void producerOutOfBounds() {
        Dues.by("2 FIELD .. PRODUCER not -1 .. 2^50");
        producer(-2, -1, -1, 2, 43);
        producer(-2, 0, 0, 2, 43);
        producer(-1, -1, -1, 0, -1);
        producer(0, 0, 0, 0, -1);
        producer(MOST, 0, 0, 0, -1);
        producer(MOST + 1, 0, 0, 2, 43);
        producer(Long.MIN_VALUE, 0, 0, 2, 43);
        producer(Long.MAX_VALUE, 0, 0, 2, 43);
    }

    private static void epochWithoutProducer() {
        Dues.by("2 FIELD .. EPOCH .. not -1 if PRODUCER is");
        producer(-1, -1, -1, 0, -1);
        producer(-1, 0, -1, 2, 51);
        producer(-1, -2, -1, 2, 51);
        producer(-1, 32767, -1, 2, 51);
        producer(-1, -32768, -1, 2, 51);
        producer(-1, 255, -1, 2, 51);
        producer(-1, -256, -1, 2, 51);
    }

    private static void epochOfAProducer() {
        Dues.by("2 FIELD .. EPOCH .. else below 0");
        producer(0, -1, 0, 2, 51);
        producer(5, -1, 0, 2, 51);
        producer(5, -32768, 0, 2, 51);
        producer(5, 0, 0, 0, -1);
        producer(5, 32767, 0, 0, -1);
        producer(MOST, -1, 0, 2, 51);
    }

    private static void sequenceWithoutProducer() {
        Dues.by("2 FIELD .. SEQUENCE not -1 if PRODUCER is");
        producer(-1, -1, -1, 0, -1);
        producer(-1, -1, 0, 2, 53);
        producer(-1, -1, -2, 2, 53);
        producer(-1, -1, Integer.MAX_VALUE, 2, 53);
        producer(-1, -1, Integer.MIN_VALUE, 2, 53);
        producer(-1, -1, 0xFFFF, 2, 53);
        producer(-1, -1, 0xFFFF0000, 2, 53);
    }

    private static void sequenceOfAProducer() {
        Dues.by("2 FIELD .. SEQUENCE .. else below 0");
        producer(0, 0, -1, 2, 53);
        producer(5, 0, -1, 2, 53);
        producer(5, 0, Integer.MIN_VALUE, 2, 53);
        producer(5, 0, 0, 0, -1);
        producer(5, 0, Integer.MAX_VALUE, 0, -1);
        producer(MOST, 0, -1, 2, 53);
    }

    private static void count(int last, int count, int kind, int at) {
        Bytes b = sound();
        b.setNumber(23, last, 4);
        b.setNumber(57, count, 4);
        due("last " + last + ", count " + count, b.rightened(), kind, at);
    }

    private static void countOutOfBounds() {
        Dues.by("2 FIELD .. COUNT not 1 .. 1000");
        count(-1, 0, 2, 57);
        count(-2, -1, 2, 57);
        count(1000, 1001, 2, 57);
        count(65536, 65537, 2, 57);
        // In bounds, but there are other records than that.
        count(0, 1, 4, 71);
        count(2, 3, 4, 79);
        count(999, 1000, 4, 79);
        due("1 record", Bytes.batch(1, 0, 0, Bytes.record(0, 0, null, null)), 0, -1);
        Bytes many = new Bytes();
        for (int i = 0; i < 1000; i++) {
            many.add(Bytes.record(0, i, null, null));
        }
        due("1000 records", Bytes.batch(1000, 0, 0, many), 0, -1);
        many.add(Bytes.record(0, 1000, null, null));
        due("1001 records", Bytes.batch(1001, 0, 0, many), 2, 57);
    }

    /** Makes the field at this place wrong, and no field to the left of it. */
    private static void makeWrong(Bytes b, int place) {
        switch (place) {
            case 16: b.setNumber(place, 1, 1); break;
            case 21: b.setNumber(place, 1, 2); break;
            case 23: b.setNumber(place, 7, 4); break;
            case 27: case 35: b.setNumber(place, -1, 8); break;
            case 43: b.setNumber(place, -2, 8); break;
            case 51: b.setNumber(place, -2, 2); break;
            case 53: b.setNumber(place, -2, 4); break;
            case 57: b.setNumber(23, -1, 4); b.setNumber(place, 0, 4); break;
            default: b.setNumber(place, 1, 4);
        }
    }

    private static void firstFieldFromTheLeft() {
        Dues.by("2 FIELD, at the first byte of the first one, from the left, that is wrong");
        for (int right = 0; right < FIELD_PLACES.length; right++) {
            for (int left = 0; left <= right; left++) {
                Bytes b = sound();
                makeWrong(b, FIELD_PLACES[right]);
                makeWrong(b, FIELD_PLACES[left]);
                String name = "wrong at " + FIELD_PLACES[left] + " and " + FIELD_PLACES[right];
                due(name, b, 2, FIELD_PLACES[left]);
                due(name + ", checked", b.rightened(), 2, FIELD_PLACES[left]);
            }
        }
    }

    private static void checksumIsAnother() {
        Dues.by("3 CHECKSUM, at 17");
        for (int i = 17; i < 21; i++) {
            for (int bit = 1; bit < 256; bit *= 2) {
                Bytes b = sound();
                b.set(i, b.get(i) ^ bit);
                due("checksum byte " + i, b, 3, 17);
            }
        }
        int[] stillFields = {34, 42};
        for (int i : stillFields) {
            Bytes b = sound();
            b.set(i, b.get(i) ^ 1);
            due("spoiled byte " + i, b, 3, 17);
        }
        for (int i = 61; i < sound().size(); i++) {
            Bytes b = sound();
            b.set(i, b.get(i) ^ 128);
            due("spoiled byte " + i, b, 3, 17);
        }
        due("the right one", sound(), 0, -1);
    }

    private static void timeIsNotTheGreatest() {
        Dues.by("5 TIME, at 35: GREATEST TIME is not the greatest time of its records");
        Bytes three = new Bytes().add(Bytes.record(5, 0, null, null))
            .add(Bytes.record(9, 1, null, null)).add(Bytes.record(-3, 2, null, null));
        due("the greatest in the middle", Bytes.batch(3, 100, 109, three), 0, -1);
        due("one less", Bytes.batch(3, 100, 108, three), 5, 35);
        due("one more", Bytes.batch(3, 100, 110, three), 5, 35);
        due("the first one's", Bytes.batch(3, 100, 105, three), 5, 35);
        due("the last one's", Bytes.batch(3, 100, 97, three), 5, 35);
        due("2^32 more", Bytes.batch(3, 100, 109 + (1L << 32), three), 5, 35);
        due("FIRST TIME, all being before", Bytes.batch(1, 100, 100, Bytes.record(-3, 0, null, null)), 5, 35);
        due("before FIRST TIME", Bytes.batch(1, 100, 97, Bytes.record(-3, 0, null, null)), 0, -1);
        due("0", Bytes.batch(1, 0, 0, Bytes.record(0, 0, null, null)), 0, -1);
        due("1 for 0", Bytes.batch(1, 0, 1, Bytes.record(0, 0, null, null)), 5, 35);
        due("0 for 1", Bytes.batch(1, 0, 0, Bytes.record(1, 0, null, null)), 5, 35);
        due("2^50", Bytes.batch(1, 1, MOST, Bytes.record(MOST - 1, 0, null, null)), 0, -1);
        due("2^50 less 1 for 2^50", Bytes.batch(1, 1, MOST - 1, Bytes.record(MOST - 1, 0, null, null)), 5, 35);
    }

    /** A tape with the faults of these kinds, each of which can be there beside all others. */
    private static Bytes withFaults(int kinds) {
        Bytes records = Bytes.record(1, 0, null, null);
        records.add((kinds & 8) != 0 ? new Bytes().add(0) : new Bytes());
        Bytes b = Bytes.batch(1, 0, (kinds & 16) != 0 ? 9 : 1, records);
        b.setNumber(16, (kinds & 2) != 0 ? 3 : 2, 1);
        b.setNumber(8, (kinds & 1) != 0 ? 1 : b.size() - 12, 4);
        b.rightened();
        b.set(20, (kinds & 4) != 0 ? b.get(20) ^ 1 : b.get(20));
        return b;
    }

    private static void firstKindCounts() {
        Dues.by("It is a batch if it has no FAULT, which is the first one of");
        int[] places = {-1, 8, 16, 17, 68, 35};
        for (int kinds = 0; kinds < 32; kinds++) {
            int first = kinds == 0 ? 0 : 1 + Integer.numberOfTrailingZeros(kinds);
            due("faults " + Integer.toBinaryString(kinds), withFaults(kinds), first, places[first]);
        }
    }

    private static void everyCallThatChangesTheTapeChangesItsFault() {
        Dues.by("fault: Of the tape: ..");
        BatchBytes x = new BatchBytes();
        Dues.due("of an empty tape", () -> x.fault(0), 1);
        x.record(1, 0, 1, 0, 1, 0);
        Dues.due("before seal", () -> x.fault(0), 1);
        x.seal(-1, -1, -1, 0);
        Dues.due("after seal", () -> x.fault(0), 0);
        x.record(1, 0, 1, 0, 1, 0);
        Dues.due("after record", () -> x.fault(0), 0);
        x.clear();
        Dues.due("after clear", () -> x.fault(0), 0);
        x.feed(0, 0, 0, 0, 0);
        Dues.due("after feed", () -> x.fault(0), 1);
        x.trim(20);
        Dues.due("after trim", () -> x.fault(0), 0);
        x.trim(0);
        Dues.due("after trim of none", () -> x.fault(0), 0);
        x.spoil(20, 1);
        Dues.due("after spoil", () -> x.fault(0), 3);
        x.check();
        Dues.due("after check", () -> x.fault(0), 0);
        x.spoil(62, 1);
        x.check();
        Dues.due("with a wrong record", () -> x.fault(0), 4);
        x.spoil(62, 1);
        x.check();
        Dues.due("with the record mended", () -> x.fault(0), 0);
        x.seal(-1, -1, -1, 0);
        Dues.due("after a second seal", () -> x.fault(0), 1);
    }
}
