/** The document's terms: head, varints, checksum, what holds in all calls; a method for each sentence. */
public final class TermsTest {
    public static void main(String[] args) {
        noneIsMinusOne();
        numbersHaveTheirHighestByteFirst();
        varintsOfSealedTimes();
        varintsOfSealedNumbers();
        varintsOfSealedLengths();
        varintsReadBack();
        varintsOfAnOddFold();
        checksumsKnownElsewhere();
        checksumOfAllBytesBehindIt();
        draftHasNoneAtFirst();
        argumentBeforeState();
        fiveHundredAndTwelveCalls();
        Dues.end();
    }

    private static void noneIsMinusOne() {
        Dues.by("NONE = -1: There is none");
        Dues.due("NONE", () -> BatchBytes.NONE, -1);
    }

    private static void bytes(String name, BatchBytes x, int from, int... want) {
        for (int i = 0; i < want.length; i++) {
            int place = from + i;
            Dues.due(name + ": byteAt(" + place + ")", () -> x.byteAt(place), want[i]);
        }
    }

    private static void numbersHaveTheirHighestByteFirst() {
        Dues.by("numbers in it have their highest byte first. Its HEAD has 61 bytes, from 0 on");
        BatchBytes x = new BatchBytes();
        x.record(2, 0, -1, 0, 300, 0x0F0E0D);
        x.seal(0x1122334455667788L, 0x99AA, 0xBBCCDDEE, 0x010203040506L);
        bytes("BASE, LENGTH", x, 0, 0, 0, 0, 0, 0, 0, 0, 0, 0, 0, 2, 0x9F);
        bytes("TERM, MARK", x, 12, 0, 0, 0, 0, 2);
        bytes("FLAGS, LAST", x, 21, 0, 0, 0, 0, 0, 1);
        bytes("FIRST TIME", x, 27, 0, 0, 1, 2, 3, 4, 5, 6);
        bytes("GREATEST TIME", x, 35, 0, 0, 1, 2, 3, 0x13, 0x13, 0x14);
        bytes("PRODUCER, EPOCH", x, 43, 0x11, 0x22, 0x33, 0x44, 0x55, 0x66, 0x77, 0x88, 0x99, 0xAA);
        bytes("SEQUENCE, COUNT", x, 53, 0xBB, 0xCC, 0xDD, 0xEE, 0, 0, 0, 2);
        Dues.due("size()", () -> x.size(), 61 + 2 * 311);
    }

    /** One record, sealed, whose time's difference is later: its pieces begin at 63. */
    private static void sealedTime(int later, int... pieces) {
        BatchBytes x = new BatchBytes();
        x.record(1, 0, -1, 0, -1, later);
        x.seal(0, 0, 0, 0);
        bytes("later " + later, x, 61, 2 * (5 + pieces.length), 0);
        bytes("later " + later, x, 63, pieces);
        bytes("later " + later, x, 63 + pieces.length, 0, 1, 1, 0);
        Dues.due("size()", () -> x.size(), 67 + pieces.length);
        Dues.due("fault(0)", () -> x.fault(0), 0);
        Dues.due("told(0, 1)", () -> x.told(0, 1), later);
    }

    private static void varintsOfSealedTimes() {
        Dues.by("A VARINT .. in pieces of 7 bits, the lowest first, each in a byte, with 128 more in all but the last one");
        sealedTime(0, 0);
        sealedTime(1, 2);
        sealedTime(62, 124);
        sealedTime(63, 126);
        sealedTime(64, 128, 1);
        sealedTime(65, 130, 1);
        sealedTime(127, 254, 1);
        sealedTime(128, 128, 2);
        sealedTime(8191, 254, 127);
        sealedTime(8192, 128, 128, 1);
        sealedTime(999999, 254, 136, 122);
        sealedTime(1000000, 128, 137, 122);
    }

    private static void varintsOfSealedNumbers() {
        Dues.by("its number (varint; 0, 1, ..)");
        BatchBytes x = Made.withRecords(1000);
        x.seal(0, 0, 0, 0);
        int at64 = 61 + 64 * 7;
        bytes("record 0", x, 61, 12, 0, 0, 0, 1, 1, 0);
        bytes("record 63", x, at64 - 7, 12, 0, 126, 126, 1, 1, 0);
        // Its time's difference, 64, has two pieces, and its number too.
        bytes("record 64", x, at64, 16, 0, 128, 1, 128, 1, 1, 1, 0);
        Dues.due("told(999, 2)", () -> x.told(999, 2), -1);
        long place = x.told(999, 0);
        bytes("record 999", x, (int) place, 16, 0, 198, 1, 206, 15, 1, 1, 0);
    }

    private static void varintsOfSealedLengths() {
        Dues.by("how many bytes it has behind this (varint) .. how many its VALUE has (varint; -1: none)");
        sealedValue(57, 126, 114);
        sealedValue(58, 128, 1, 116);
        sealedValue(63, 138, 1, 126);
        sealedValue(64, 142, 1, 128, 1);
        sealedValue(300, 230, 4, 216, 4);
    }

    /** One record without a key: the pieces of its length, then those of how many bytes its value has. */
    private static void sealedValue(int valueBytes, int... pieces) {
        BatchBytes x = new BatchBytes();
        x.record(1, 0, -1, 0x01, valueBytes, 0);
        x.seal(0, 0, 0, 0);
        int ofLength = valueBytes < 58 ? 1 : 2;
        for (int i = 0; i < pieces.length; i++) {
            int place = i < ofLength ? 61 + i : 65 + i;
            bytes("a value of " + valueBytes, x, place, pieces[i]);
        }
        bytes("a value of " + valueBytes, x, 61 + ofLength, 0, 0, 0, 1);
        bytes("a value of " + valueBytes, x, 65 + pieces.length, 1, 0);
        bytes("a value of " + valueBytes, x, 65 + pieces.length + valueBytes, 0);
        Dues.due("size()", () -> x.size(), 66 + pieces.length + valueBytes);
        Dues.due("told(0, 4)", () -> x.told(0, 4), valueBytes);
    }

    private static void readBack(long first, long difference, int pieces) {
        long time = first + difference;
        BatchBytes x = Made.withTape(Bytes.batch(1, first, time, Bytes.record(difference, 0, null, null)));
        Dues.due("size() for " + difference, () -> x.size(), 67 + pieces);
        Dues.due("fault(0) for " + difference, () -> x.fault(0), 0);
        Dues.due("told(0, 1) for " + difference, () -> x.told(0, 1), time);
    }

    /** The greatest and the least numbers of 1 to 7 pieces, and the first ones beyond these. */
    private static void varintsReadBack() {
        Dues.by("A VARINT of v: z, which is 2 v for v not below 0, else - 2 v - 1, in pieces of 7 bits");
        long first = 1L << 49;
        for (int pieces = 1; pieces <= 7; pieces++) {
            long bound = 1L << (7 * pieces - 1);
            readBack(first, bound - 1, pieces);
            readBack(first, bound, pieces + 1);
            readBack(first, -bound, pieces);
            readBack(first, -bound - 1, pieces + 1);
        }
        readBack(1L << 50, -1L << 50, 8);
        readBack(0, 1L << 50, 8);
    }

    /** A record at FIRST TIME 1000 whose time's difference has these pieces, written out. */
    private static void pieces(long time, int... pieces) {
        Bytes record = Bytes.framed(new Bytes().add(0).add(pieces).add(0, 1, 1, 0));
        BatchBytes x = Made.withTape(Bytes.batch(1, 1000, time, record));
        Dues.due("fault(0) at " + time, () -> x.fault(0), 0);
        Dues.due("told(0, 1) at " + time, () -> x.told(0, 1), time);
    }

    private static void varintsOfAnOddFold() {
        Dues.by("A VARINT of v: z, which is 2 v for v not below 0, else - 2 v - 1");
        pieces(1000, 0);
        pieces(999, 1);
        pieces(1001, 2);
        pieces(998, 3);
        pieces(1063, 126);
        pieces(936, 127);
        pieces(1064, 128, 1);
        pieces(935, 129, 1);
        pieces(0, 207, 15);
        pieces(9191, 254, 127);
        pieces(9192, 128, 128, 1);
    }

    /** Checksums of 32 bytes from RFC 3720, and the one of the nine letters 1 to 9. */
    private static void checksumsKnownElsewhere() {
        Dues.by("THE CHECKSUM of bytes");
        known("123456789", 0xE3069283, '1', '2', '3', '4', '5', '6', '7', '8', '9');
        int[] zeros = new int[32];
        int[] ones = new int[32];
        int[] up = new int[32];
        int[] down = new int[32];
        for (int i = 0; i < 32; i++) {
            ones[i] = 255;
            up[i] = i;
            down[i] = 31 - i;
        }
        known("32 zeros", 0x8A9136AA, zeros);
        known("32 ones", 0x62A8AB43, ones);
        known("0 .. 31", 0x46DD794E, up);
        known("31 .. 0", 0x113FDB5C, down);
    }

    /**
     * The tape's own checksum goes from 21 on and has 40 bytes at least. The first 40 - n of these are
     * chosen so that the checksum's 32 bits are all ones again when the n known bytes begin.
     */
    private static void known(String name, int want, int... bytes) {
        Bytes own = new Bytes().add(bytes);
        Dues.due(name + ", the test's own", () -> own.checksumFrom(0), want);
        int before = Math.max(40 - bytes.length, 4);
        Bytes tape = new Bytes();
        for (int i = 0; i < 21 + before - 4; i++) {
            tape.add(0);
        }
        // What leads the 32 bits from where they are to all ones: four bytes, found backwards.
        int four = leadingToOnes(~tape.checksumFrom(21));
        for (int k = 0; k < 4; k++) {
            tape.add(four >>> 8 * k & 255);
        }
        tape.add(bytes);
        BatchBytes x = Made.withTape(tape);
        Dues.due(name + ": check()", () -> x.check(), want);
        bytes(name, x, 17, want >>> 24, want >>> 16 & 255, want >>> 8 & 255, want & 255);
    }

    /** The number whose bytes, lowest first, lead the checksum's bits from c to all ones. */
    private static int leadingToOnes(int c) {
        int bits = -1;
        for (int step = 0; step < 32; step++) {
            // Its highest bit tells whether the number was put in: that one's highest bit is set.
            bits = bits < 0 ? (bits ^ 0x82F63B78) << 1 | 1 : bits << 1;
        }
        return bits ^ c;
    }

    private static void checksumOfAllBytesBehindIt() {
        Dues.by("at 17 CHECKSUM (4; of all bytes behind it)");
        BatchBytes x = new BatchBytes();
        for (int i = 0; i < 4; i++) {
            x.feed(0x11111111 * i, 0x9ABCDEF0, i, -i, 77 * i);
        }
        int before = x.check();
        for (int i = 0; i < 80; i++) {
            int place = i;
            x.spoil(place, 1);
            Dues.due("byte " + i + " counts", () -> x.check() == before ? 0 : 1, i < 21 ? 0 : 1);
            // The checksum's own bytes have been put right by check().
            x.spoil(place, i >= 17 && i < 21 ? 0 : 1);
            Dues.due("byte " + i + " as it was", () -> x.check(), before);
        }
    }

    private static void draftHasNoneAtFirst() {
        Dues.by("THE DRAFT has records, none at first");
        Dues.due("clear()", () -> new BatchBytes().clear(), 0);
        BatchBytes x = new BatchBytes();
        x.seal(0, 0, 0, 0);
        bytes("COUNT", x, 57, 0, 0, 0, 0);
    }

    private static void argumentBeforeState() {
        Dues.by("Of several exceptions the one named first is thrown");
        BatchBytes x = Made.withRecords(1000);
        Dues.due("a full draft", () -> x.record(1, 0, 0, 0, 0, 0), Dues.STATE);
        Dues.due("and n", () -> x.record(101, 0, 0, 0, 0, 0), Dues.ARGUMENT);
        Dues.due("and n 0", () -> x.record(0, 0, 0, 0, 0, 0), Dues.ARGUMENT);
        Dues.due("and keyBytes", () -> x.record(1, 0, 9, 0, 0, 0), Dues.ARGUMENT);
        Dues.due("and valueBytes", () -> x.record(1, 0, 0, 0, 301, 0), Dues.ARGUMENT);
        Dues.due("and later", () -> x.record(1, 0, 0, 0, 0, 1000001), Dues.ARGUMENT);
        BatchBytes y = Made.withDraftBytes(141);
        Dues.due("a draft full of bytes", () -> y.record(1, 0, 0, 0, 0, 0), Dues.STATE);
        Dues.due("and n", () -> y.record(101, 0, 8, 0, 300, 0), Dues.ARGUMENT);
        Dues.due("and keyBytes", () -> y.record(100, 0, 9, 0, 300, 0), Dues.ARGUMENT);
        Dues.due("and valueBytes", () -> y.record(100, 0, 8, 0, 301, 0), Dues.ARGUMENT);
        Dues.due("and later", () -> y.record(100, 0, 8, 0, 300, -1), Dues.ARGUMENT);
        BatchBytes z = Made.withBytes(16384);
        Dues.due("a full tape", () -> z.seal(0, 0, 0, 0), Dues.STATE);
        Dues.due("and time -1", () -> z.seal(0, 0, 0, -1), Dues.ARGUMENT);
        Dues.due("and time 2^49 + 1", () -> z.seal(0, 0, 0, (1L << 49) + 1), Dues.ARGUMENT);
        Dues.due("and time 2^49", () -> z.seal(0, 0, 0, 1L << 49), Dues.STATE);
    }

    private static void fiveHundredAndTwelveCalls() {
        Dues.by("An object is used for at most 512 calls after it has been made");
        BatchBytes x = new BatchBytes();
        for (int i = 1; i <= 508; i++) {
            int want = i;
            Dues.due("record() number " + i, () -> x.record(1, want, 8, want, 8, want), want);
        }
        Dues.due("call 509", () -> x.seal(0, 0, 0, 0), 61 + 63 * 23 + 24 + 444 * 25);
        Dues.due("call 510", () -> x.fault(0), 0);
        Dues.due("call 511", () -> x.told(507, 3), 508);
        Dues.due("call 512", () -> x.told(507, 1), 508);
    }
}
