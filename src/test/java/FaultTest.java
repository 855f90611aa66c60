import java.math.BigInteger;

/** Promise 11: fault; each kind, each field, each way a record can be wrong, and their order. */
public final class FaultTest {
    private static final long MOST = 1L << 50;

    public static void main(String[] args) {
        whatIsOutOfBounds();
        lengthFaults();
        fieldFaults();
        producerFaults();
        countFaults();
        checksumFaults();
        recordFaults();
        partFaults();
        varintFaults();
        timesOfRecords();
        bytesBehind();
        timeFaults();
        theFirstFaultCounts();
        everyCallThatChangesTheTapeChangesItsFault();
        Dues.end();
    }

    private static void due(String name, Bytes tape, int kind, int place) {
        BatchBytes x = new BatchBytes();
        tape.feedTo(x);
        Dues.due(name + ": fault(0)", () -> x.fault(0), kind);
        Dues.due(name + ": fault(1)", () -> x.fault(1), place);
        Dues.due(name + ": fault(0) again", () -> x.fault(0), kind);
        if (kind != 0) {
            Dues.due(name + ": head(0)", () -> x.head(0), Dues.ARGUMENT);
            Dues.due(name + ": told(0, 0)", () -> x.told(0, 0), Dues.ARGUMENT);
        }
    }

    /** Its records begin at 61 and at 71; it has 79 bytes. */
    private static Bytes sound() {
        return Bytes.batch(2, 1000, 1007, new Bytes()
            .add(Bytes.record(7, 0, new int[] {1, 2}, new int[] {3}))
            .add(Bytes.record(-1000, 1, null, new int[0])));
    }

    private static void whatIsOutOfBounds() {
        BatchBytes x = new BatchBytes();
        int[] bad = {-1, 2, Integer.MIN_VALUE, Integer.MAX_VALUE};
        for (int what : bad) {
            Dues.due("fault(" + what + ")", () -> x.fault(what), Dues.ARGUMENT);
        }
        due("a sound batch", sound(), 0, -1);
    }

    private static void lengthFaults() {
        due("no bytes", new Bytes(), 1, 8);
        Bytes sixty = new Bytes();
        for (int i = 0; i < 60; i++) {
            sixty.add(0);
        }
        sixty.setNumber(8, 48, 4);
        due("60 bytes", sixty, 1, 8);
        due("one byte more", sound().add(0), 1, 8);
        Bytes less = sound();
        less.cut(1);
        due("one byte less", less, 1, 8);
        Bytes far = sound();
        far.setNumber(8, far.size() - 12 + 0x80000000L, 4);
        due("a high bit more", far, 1, 8);
    }

    private static void field(int place, int bytes, long v, int kind, int at) {
        Bytes b = sound();
        b.setNumber(place, v, bytes);
        due("the field at " + place + " is " + v, b.rightened(), kind, at);
    }

    private static void fieldFaults() {
        for (int byteOf = 0; byteOf < 8; byteOf++) {
            field(0, 8, 1L << (8 * byteOf), 2, 0);
        }
        field(0, 8, -1, 2, 0);
        field(12, 4, 1, 2, 12);
        field(12, 4, -1, 2, 12);
        field(16, 1, 0, 2, 16);
        field(16, 1, 1, 2, 16);
        field(16, 1, 3, 2, 16);
        field(16, 1, 130, 2, 16);
        field(21, 2, 1, 2, 21);
        field(21, 2, 0x8000, 2, 21);
        field(23, 4, 0, 2, 23);
        field(23, 4, 2, 2, 23);
        field(23, 4, -1, 2, 23);
        field(27, 8, -1, 2, 27);
        field(27, 8, MOST + 1, 2, 27);
        field(27, 8, Long.MAX_VALUE, 2, 27);
        field(27, 8, Long.MIN_VALUE, 2, 27);
        field(35, 8, -1, 2, 35);
        field(35, 8, MOST + 1, 2, 35);
        field(35, 8, MOST, 5, 35);
        field(35, 8, 0, 5, 35);
        field(27, 8, MOST, 4, 61);
        field(27, 8, 0, 4, 71);
    }

    private static void producer(long producer, int epoch, int sequence, int kind, int at) {
        Bytes b = sound();
        b.setNumber(43, producer, 8);
        b.setNumber(51, epoch, 2);
        b.setNumber(53, sequence, 4);
        due("producer " + producer + ", " + epoch + ", " + sequence, b.rightened(), kind, at);
    }

    private static void producerFaults() {
        producer(-1, -1, -1, 0, -1);
        producer(-2, -1, -1, 2, 43);
        producer(Long.MIN_VALUE, 0, 0, 2, 43);
        producer(MOST + 1, 0, 0, 2, 43);
        producer(MOST, 0, 0, 0, -1);
        producer(0, 0, 0, 0, -1);
        producer(5, 32767, Integer.MAX_VALUE, 0, -1);
        producer(5, -1, 0, 2, 51);
        producer(5, -32768, -1, 2, 51);
        producer(5, 0, -1, 2, 53);
        producer(5, 0, Integer.MIN_VALUE, 2, 53);
        producer(-1, 0, -1, 2, 51);
        producer(-1, 0, 0, 2, 51);
        producer(-1, -2, -1, 2, 51);
        producer(-1, -1, 0, 2, 53);
        producer(-1, -1, -2, 2, 53);
    }

    private static void count(int last, int count, int kind, int at) {
        Bytes b = sound();
        b.setNumber(23, last, 4);
        b.setNumber(57, count, 4);
        due("last " + last + ", count " + count, b.rightened(), kind, at);
    }

    private static void countFaults() {
        count(-1, 0, 2, 57);
        count(-2, -1, 2, 57);
        count(1000, 1001, 2, 57);
        count(999, 1000, 4, 79);
        count(0, 1, 4, 71);
        count(2, 3, 4, 79);
        count(0, 2, 2, 23);
        count(Integer.MAX_VALUE, Integer.MIN_VALUE, 2, 23);
        count(Integer.MAX_VALUE - 1, Integer.MAX_VALUE, 2, 57);
        count(Integer.MIN_VALUE, Integer.MIN_VALUE + 1, 2, 57);
    }

    private static void checksumFaults() {
        for (int i = 17; i < 21; i++) {
            for (int bit = 1; bit < 256; bit *= 2) {
                Bytes b = sound();
                b.set(i, b.get(i) ^ bit);
                due("checksum byte " + i, b, 3, 17);
            }
        }
        for (int i = 61; i < sound().size(); i++) {
            Bytes b = sound();
            b.set(i, b.get(i) ^ 1);
            due("spoiled byte " + i, b, 3, 17);
        }
    }

    private static void one(String name, Bytes record, int kind, int at) {
        due(name, Bytes.batch(1, 0, 0, record), kind, at);
    }

    private static Bytes body() {
        return new Bytes().add(0).varint(0).varint(0).varint(-1).varint(-1).add(0);
    }

    private static void recordFaults() {
        one("the least record", Bytes.framed(body()), 0, -1);
        one("no bytes of a record", new Bytes(), 4, 61);
        for (int cut = 1; cut <= 6; cut++) {
            Bytes b = body();
            b.cut(cut);
            one("cut by " + cut + " with its length right", Bytes.framed(b), 4, 61);
            one("cut by " + cut + " with its length wrong", new Bytes().varint(6).add(b), 4, 61);
        }
        one("its length one less", new Bytes().varint(5).add(body()), 4, 61);
        one("its length one more", new Bytes().varint(7).add(body()), 4, 61);
        one("one more and there is one", new Bytes().varint(7).add(body()).add(0), 4, 61);
        one("its length 0", new Bytes().varint(0).add(body()), 4, 61);
        one("its length -1", new Bytes().varint(-1).add(body()), 4, 61);
        one("its length lowest", new Bytes().varint(Long.MIN_VALUE).add(body()), 4, 61);
        one("its length highest", new Bytes().varint(Long.MAX_VALUE).add(body()), 4, 61);
        one("its length 2^32 more", new Bytes().varint((1L << 32) + 6).add(body()), 4, 61);
        Bytes first = body();
        first.set(0, 1);
        one("its first byte not 0", Bytes.framed(first), 4, 61);
        Bytes last = body();
        last.set(5, 128);
        one("its last byte not 0", Bytes.framed(last), 4, 61);
        numbers();
    }

    private static void numbers() {
        long[] wrong = {1, -1, 1L << 32, Long.MIN_VALUE};
        for (long n : wrong) {
            one("its number " + n, Bytes.framed(new Bytes().add(0).varint(0).varint(n).varint(-1).varint(-1).add(0)), 4, 61);
        }
        Bytes twice = new Bytes().add(Bytes.record(0, 0, null, null)).add(Bytes.record(0, 0, null, null));
        due("the number 0 twice", Bytes.batch(2, 0, 0, twice), 4, 68);
        Bytes turned = new Bytes().add(Bytes.record(0, 1, null, null)).add(Bytes.record(0, 0, null, null));
        due("1 before 0", Bytes.batch(2, 0, 0, turned), 4, 61);
        Bytes many = new Bytes();
        for (int i = 0; i < 1000; i++) {
            many.add(Bytes.record(0, i, null, null));
        }
        due("1000 records", Bytes.batch(1000, 0, 0, many), 0, -1);
    }

    private static Bytes parts(long keyLength, Bytes key, long valueLength, Bytes value) {
        return Bytes.framed(new Bytes().add(0).varint(0).varint(0)
            .varint(keyLength).add(key).varint(valueLength).add(value).add(0));
    }

    private static void partFaults() {
        Bytes none = new Bytes();
        Bytes three = new Bytes().add(1, 2, 3);
        one("key and value", parts(3, three, 3, three), 0, -1);
        one("empty ones", parts(0, none, 0, none), 0, -1);
        long[] wrong = {-2, -3, 4, 100, 1L << 31, (1L << 32) - 1, 1L << 32, (1L << 32) + 3, Long.MAX_VALUE, Long.MIN_VALUE};
        for (long length : wrong) {
            one("key of " + length, parts(length, three, 3, three), 4, 61);
            one("value of " + length, parts(3, three, length, three), 4, 61);
        }
        one("a key that is none but there", parts(-1, three, 3, three), 4, 61);
        one("a value that is none but there", parts(3, three, -1, three), 4, 61);
        Bytes two = new Bytes().add(parts(3, three, 4, three)).add(Bytes.record(0, 1, null, null));
        due("a value up to the record's last byte", Bytes.batch(2, 0, 0, two), 4, 61);
        Bytes beyond = new Bytes().add(parts(3, three, 6, three)).add(Bytes.record(0, 1, null, null));
        due("a value into the next record", Bytes.batch(2, 0, 0, beyond), 4, 61);
        Bytes big = new Bytes();
        for (int i = 0; i < 4000; i++) {
            big.add(i);
        }
        one("4000 bytes of each", parts(4000, big, 4000, big), 0, -1);
    }

    private static void varintFaults() {
        one("a length in two pieces", new Bytes().add(140, 0).add(body()), 4, 61);
        one("a time in two pieces", Bytes.framed(new Bytes().add(0, 128, 0, 0, 1, 1, 0)), 4, 61);
        one("a number in two pieces", Bytes.framed(new Bytes().add(0, 0, 128, 0, 1, 1, 0)), 4, 61);
        one("a key's length in two pieces", Bytes.framed(new Bytes().add(0, 0, 0, 129, 0, 1, 0)), 4, 61);
        one("a value's length in two pieces", Bytes.framed(new Bytes().add(0, 0, 0, 1, 129, 0, 0)), 4, 61);
        Bytes ten = new Bytes().add(0, 0).add(128, 128, 128, 128, 128, 128, 128, 128, 128);
        one("a number in ten pieces, none needed", Bytes.framed(new Bytes().add(ten).add(0).add(1, 1, 0)), 4, 61);
        one("2^64 as a tenth piece of 2", Bytes.framed(new Bytes().add(ten).add(2).add(1, 1, 0)), 4, 61);
        one("a tenth piece of 128", Bytes.framed(new Bytes().add(ten).add(128, 0).add(1, 1, 0)), 4, 61);
        one("ten pieces with no last one", Bytes.framed(new Bytes().add(ten).add(128).add(1, 1, 0)), 4, 61);
        one("pieces to the record's end", Bytes.framed(new Bytes().add(0, 128, 128, 128)), 4, 61);
        one("pieces to the tape's end", new Bytes().add(128, 128, 128, 128, 128), 4, 61);
        one("a time of 2^64", Bytes.framed(new Bytes().add(0)
            .varint(BigInteger.ONE.shiftLeft(64)).varint(0).varint(-1).varint(-1).add(0)), 4, 61);
    }

    private static void time(long firstTime, long difference, long greatest, int kind, int at) {
        due("first time " + firstTime + " and " + difference,
            Bytes.batch(1, firstTime, greatest, Bytes.record(difference, 0, null, null)), kind, at);
    }

    private static void timesOfRecords() {
        time(0, 0, 0, 0, -1);
        time(0, -1, 0, 4, 61);
        time(0, MOST, MOST, 0, -1);
        time(0, MOST + 1, MOST, 4, 61);
        time(MOST, 0, MOST, 0, -1);
        time(MOST, 1, MOST, 4, 61);
        time(MOST, -MOST, 0, 0, -1);
        time(MOST, -MOST - 1, 0, 4, 61);
        time(1000, -1000, 0, 0, -1);
        time(1000, -1001, 0, 4, 61);
        time(1000, 64, 1064, 0, -1);
        time(5, Long.MAX_VALUE, 0, 4, 61);
        time(5, Long.MIN_VALUE, 0, 4, 61);
        time(MOST, Long.MAX_VALUE, 0, 4, 61);
        time(MOST, Long.MIN_VALUE, 0, 4, 61);
        // The wrapped sum would be the lowest numbers or a fitting one.
        time(MOST, Long.MAX_VALUE - MOST + 1, 0, 4, 61);
    }

    private static void bytesBehind() {
        Bytes least = Bytes.record(0, 0, null, null);
        due("a byte behind the last record", Bytes.batch(1, 0, 0, new Bytes().add(least).add(0)), 4, 68);
        due("a record too many", Bytes.batch(1, 0, 0, new Bytes().add(least).add(Bytes.record(0, 1, null, null))), 4, 68);
        due("a record too few", Bytes.batch(2, 0, 0, least), 4, 68);
        due("bytes behind before a wrong time", Bytes.batch(1, 0, 9, new Bytes().add(least).add(0)), 4, 68);
    }

    private static void timeFaults() {
        Bytes three = new Bytes().add(Bytes.record(5, 0, null, null))
            .add(Bytes.record(9, 1, null, null)).add(Bytes.record(-3, 2, null, null));
        due("the greatest in the middle", Bytes.batch(3, 100, 109, three), 0, -1);
        due("one less", Bytes.batch(3, 100, 108, three), 5, 35);
        due("one more", Bytes.batch(3, 100, 110, three), 5, 35);
        due("the last one's", Bytes.batch(3, 100, 97, three), 5, 35);
        due("all before the first time", Bytes.batch(1, 100, 100, Bytes.record(-3, 0, null, null)), 5, 35);
        due("that one's", Bytes.batch(1, 100, 97, Bytes.record(-3, 0, null, null)), 0, -1);
    }

    /** All faults at once, mended one by one. */
    private static void theFirstFaultCounts() {
        Bytes b = Bytes.batch(1, 0, 9, new Bytes().add(Bytes.record(1, 0, null, null)).add(0));
        b.setNumber(8, 0, 4);
        b.setNumber(0, 1, 8);
        b.setNumber(57, 3, 4);
        due("length before field", b, 1, 8);
        b.setNumber(8, b.size() - 12, 4);
        due("base before last", b, 2, 0);
        b.setNumber(0, 0, 8);
        due("last before checksum", b, 2, 23);
        b.setNumber(23, 2, 4);
        due("checksum before record", b, 3, 17);
        due("record before time", b.rightened(), 4, 68);
        b.cut(1);
        b.setNumber(8, b.size() - 12, 4);
        b.setNumber(23, 0, 4);
        b.setNumber(57, 1, 4);
        due("time last", b.rightened(), 5, 35);
        b.setNumber(35, 1, 8);
        due("none", b.rightened(), 0, -1);
    }

    private static void everyCallThatChangesTheTapeChangesItsFault() {
        BatchBytes x = new BatchBytes();
        Dues.due("of an empty tape", () -> x.fault(0), 1);
        x.record(1, 0, 1, 0, 1, 0);
        Dues.due("before seal", () -> x.fault(0), 1);
        x.seal(-1, -1, -1, 0);
        Dues.due("after seal", () -> x.fault(0), 0);
        x.feed(0, 0, 0, 0, 0);
        Dues.due("after feed", () -> x.fault(0), 1);
        x.trim(20);
        Dues.due("after trim", () -> x.fault(0), 0);
        x.spoil(20, 1);
        Dues.due("after spoil", () -> x.fault(0), 3);
        x.check();
        Dues.due("after check", () -> x.fault(0), 0);
        x.spoil(62, 1);
        x.check();
        Dues.due("with a wrong record", () -> x.fault(0), 4);
        x.spoil(62, 1);
        x.check();
        Dues.due("with the record mended", () -> x.fault(0), 0);
        x.seal(-1, -1, -1, 0);
        Dues.due("after a second seal", () -> x.fault(0), 1);
    }
}
