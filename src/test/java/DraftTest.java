/** Promises 6 to 8: record, clear, seal; a method for each sentence. */
public final class DraftTest {
    private static final int LOWEST = Integer.MIN_VALUE;
    private static final int HIGHEST = Integer.MAX_VALUE;
    private static final long MOST_TIME = 1L << 49;

    public static void main(String[] args) {
        keysOfRecords();
        keysGoRound();
        valuesOfRecords();
        valuesGoRound();
        timesOfRecords();
        howManyAreInTheDraft();
        numberOfRecordsOutOfBounds();
        keyBytesOutOfBounds();
        valueBytesOutOfBounds();
        laterOutOfBounds();
        moreThanAThousand();
        moreThanSixteenThousandBytes();
        whatCountsAsTheDraftsBytes();
        allComeOrNone();
        clearEmptiesTheDraft();
        clearAnswersHowManyItHad();
        oneBatchByteByByte();
        batchWithoutRecords();
        batchBehindTheTapesBytes();
        greatestTimeOfTheRecords();
        greatestTimeWithoutRecords();
        lastIsCountLessOne();
        lowestBytesOfEpochAndSequence();
        producerIsWrittenAsItIs();
        draftIsEmptyAfterSeal();
        sealTimeOutOfBounds();
        sealBeyondTheTapesMost();
        Dues.end();
    }

    /** An object that holds the batch which want has, behind whatever its tape had. */
    private static void same(String name, Made.Maker maker, Bytes want) {
        Dues.due(name, Made.tapeOf(maker).toString(), want.toString());
    }

    private static BatchBytes sealed(BatchBytes x) {
        x.seal(-1, -1, -1, 0);
        return x;
    }

    /** A batch, sealed at time 0, of one call of record(). */
    private static BatchBytes sealed(int n, long key, int keyBytes, long value, int valueBytes, int later) {
        BatchBytes x = new BatchBytes();
        x.record(n, key, keyBytes, value, valueBytes, later);
        return sealed(x);
    }

    private static int[] row(int... bytes) {
        return bytes;
    }

    private static Bytes oneRecord(int[] key, int[] value) {
        return Bytes.batch(1, 0, 0, Bytes.record(0, 0, key, value));
    }

    private static void keysOfRecords() {
        Dues.by("record: .. with the lowest keyBytes bytes of key + i as key, the highest first (keyBytes = -1: none)");
        long key = 0x8182030485060788L;
        same("no key", () -> sealed(1, key, -1, 0, -1, 0), oneRecord(null, null));
        same("a key of no byte", () -> sealed(1, key, 0, 0, -1, 0), oneRecord(row(), null));
        same("1 byte", () -> sealed(1, key, 1, 0, -1, 0), oneRecord(row(0x88), null));
        same("2 bytes", () -> sealed(1, key, 2, 0, -1, 0), oneRecord(row(0x07, 0x88), null));
        same("4 bytes", () -> sealed(1, key, 4, 0, -1, 0), oneRecord(row(0x85, 0x06, 0x07, 0x88), null));
        same("5 bytes", () -> sealed(1, key, 5, 0, -1, 0), oneRecord(row(0x04, 0x85, 0x06, 0x07, 0x88), null));
        same("7 bytes", () -> sealed(1, key, 7, 0, -1, 0),
            oneRecord(row(0x82, 0x03, 0x04, 0x85, 0x06, 0x07, 0x88), null));
        same("8 bytes", () -> sealed(1, key, 8, 0, -1, 0),
            oneRecord(row(0x81, 0x82, 0x03, 0x04, 0x85, 0x06, 0x07, 0x88), null));
    }

    private static void keysGoRound() {
        Dues.by("record: .. bytes of key + i as key");
        Bytes one = new Bytes().add(Bytes.record(0, 0, row(254), null))
            .add(Bytes.record(1, 1, row(255), null)).add(Bytes.record(2, 2, row(0), null));
        same("254, 255, 0", () -> sealed(3, 254, 1, 0, -1, 0), Bytes.batch(3, 0, 2, one));
        Bytes two = new Bytes().add(Bytes.record(0, 0, row(0, 255), null)).add(Bytes.record(1, 1, row(1, 0), null));
        same("255, 256", () -> sealed(2, 255, 2, 0, -1, 0), Bytes.batch(2, 0, 1, two));
        Bytes eight = new Bytes()
            .add(Bytes.record(0, 0, row(127, 255, 255, 255, 255, 255, 255, 255), null))
            .add(Bytes.record(1, 1, row(128, 0, 0, 0, 0, 0, 0, 0), null));
        same("from the highest to the lowest", () -> sealed(2, Long.MAX_VALUE, 8, 0, -1, 0), Bytes.batch(2, 0, 1, eight));
        Bytes below = new Bytes()
            .add(Bytes.record(0, 0, row(255, 255, 255, 255, 255, 255, 255, 255), null))
            .add(Bytes.record(1, 1, row(0, 0, 0, 0, 0, 0, 0, 0), null));
        same("from -1 to 0", () -> sealed(2, -1, 8, 0, -1, 0), Bytes.batch(2, 0, 1, below));
        Bytes int32 = new Bytes()
            .add(Bytes.record(0, 0, row(0, 255, 255, 255, 255), null))
            .add(Bytes.record(1, 1, row(1, 0, 0, 0, 0), null));
        same("beyond 32 bits", () -> sealed(2, 0xFFFFFFFFL, 5, 0, -1, 0), Bytes.batch(2, 0, 1, int32));
    }

    private static void valuesOfRecords() {
        Dues.by("record: .. as value valueBytes bytes (-1: none), byte j of which is the lowest of (value + i) >> 8 (j modulo 8)");
        long value = 0x8182030485060788L;
        int[] turned = {0x88, 0x07, 0x06, 0x85, 0x04, 0x03, 0x82, 0x81};
        same("no value", () -> sealed(1, 0, -1, value, -1, 0), oneRecord(null, null));
        int[] lengths = {0, 1, 7, 8, 9, 15, 16, 17, 63, 64, 65, 127, 128, 299, 300};
        for (int length : lengths) {
            int[] want = new int[length];
            for (int j = 0; j < length; j++) {
                want[j] = turned[j % 8];
            }
            same("a value of " + length, () -> sealed(1, 0, -1, value, length, 0), oneRecord(null, want));
        }
    }

    private static void valuesGoRound() {
        Dues.by("record: .. the lowest of (value + i) >> 8 (j modulo 8)");
        Bytes two = new Bytes().add(Bytes.record(0, 0, null, row(255, 0))).add(Bytes.record(1, 1, null, row(0, 1)));
        same("255, 256", () -> sealed(2, 0, -1, 255, 2, 0), Bytes.batch(2, 0, 1, two));
        Bytes nine = new Bytes()
            .add(Bytes.record(0, 0, null, row(255, 255, 255, 255, 255, 255, 255, 127, 255)))
            .add(Bytes.record(1, 1, null, row(0, 0, 0, 0, 0, 0, 0, 128, 0)));
        same("from the highest to the lowest", () -> sealed(2, 0, -1, Long.MAX_VALUE, 9, 0), Bytes.batch(2, 0, 1, nine));
        Bytes below = new Bytes()
            .add(Bytes.record(0, 0, null, row(255, 255, 255, 255, 255, 255, 255, 255, 255)))
            .add(Bytes.record(1, 1, null, row(0, 0, 0, 0, 0, 0, 0, 0, 0)));
        same("from -1 to 0", () -> sealed(2, 0, -1, -1, 9, 0), Bytes.batch(2, 0, 1, below));
    }

    private static void timesOfRecords() {
        Dues.by("record: .. and a time that is later + i more than the FIRST TIME");
        BatchBytes x = new BatchBytes();
        x.record(1, 0, 0, 0, 0, 0);
        x.record(100, 0, 0, 0, 0, 1000000);
        x.record(2, 0, 0, 0, 0, 63);
        x.seal(0, 0, 0, 5000);
        long[] want = {5000, 1005000, 1005001};
        for (int k = 0; k < 3; k++) {
            int record = k;
            Dues.due("told(" + k + ", 1)", () -> x.told(record, 1), want[k]);
        }
        Dues.due("told(100, 1)", () -> x.told(100, 1), 1005099);
        Dues.due("told(101, 1)", () -> x.told(101, 1), 5063);
        Dues.due("told(102, 1)", () -> x.told(102, 1), 5064);
    }

    private static void howManyAreInTheDraft() {
        Dues.by("record: n records come into the draft ..: how many are in the draft");
        BatchBytes x = new BatchBytes();
        Dues.due("record of 1", () -> x.record(1, 0, 0, 0, 0, 0), 1);
        Dues.due("record of 100", () -> x.record(100, 0, 0, 0, 0, 0), 101);
        Dues.due("record of 2", () -> x.record(2, 0, 0, 0, 0, 0), 103);
        sealed(x);
        Dues.due("head(5)", () -> x.head(5), 103);
    }

    private static void numberOfRecordsOutOfBounds() {
        Dues.by("record: Illegal argument: n is not 1 .. 100");
        BatchBytes x = Made.withRecords(3);
        int[] bad = {LOWEST, -1, 0, 101, HIGHEST};
        for (int n : bad) {
            Dues.due("record n " + n, () -> x.record(n, 0, 0, 0, 0, 0), Dues.ARGUMENT);
        }
        Dues.due("record n 1", () -> x.record(1, 0, 0, 0, 0, 0), 4);
        Dues.due("record n 100", () -> x.record(100, 0, 0, 0, 0, 0), 104);
    }

    private static void keyBytesOutOfBounds() {
        Dues.by("record: Illegal argument: .. keyBytes not -1 .. 8");
        BatchBytes x = Made.withRecords(3);
        int[] bad = {LOWEST, -2, 9, HIGHEST};
        for (int keyBytes : bad) {
            Dues.due("record keyBytes " + keyBytes, () -> x.record(1, 0, keyBytes, 0, 0, 0), Dues.ARGUMENT);
        }
        Dues.due("record keyBytes -1", () -> x.record(1, 0, -1, 0, 0, 0), 4);
        Dues.due("record keyBytes 8", () -> x.record(1, 0, 8, 0, 0, 0), 5);
    }

    private static void valueBytesOutOfBounds() {
        Dues.by("record: Illegal argument: .. valueBytes not -1 .. 300");
        BatchBytes x = Made.withRecords(3);
        int[] bad = {LOWEST, -2, 301, HIGHEST};
        for (int valueBytes : bad) {
            Dues.due("record valueBytes " + valueBytes, () -> x.record(1, 0, 0, 0, valueBytes, 0), Dues.ARGUMENT);
        }
        Dues.due("record valueBytes -1", () -> x.record(1, 0, 0, 0, -1, 0), 4);
        Dues.due("record valueBytes 300", () -> x.record(1, 0, 0, 0, 300, 0), 5);
    }

    private static void laterOutOfBounds() {
        Dues.by("record: Illegal argument: .. later not 0 .. 1000000");
        BatchBytes x = Made.withRecords(3);
        int[] bad = {LOWEST, -1, 1000001, HIGHEST};
        for (int later : bad) {
            Dues.due("record later " + later, () -> x.record(1, 0, 0, 0, 0, later), Dues.ARGUMENT);
        }
        Dues.due("record later 0", () -> x.record(1, 0, 0, 0, 0, 0), 4);
        Dues.due("record later 1000000", () -> x.record(1, 0, 0, 0, 0, 1000000), 5);
    }

    private static void moreThanAThousand() {
        Dues.by("record: illegal state: there would be more than 1000");
        BatchBytes x = Made.withRecords(999);
        Dues.due("record to 1001", () -> x.record(2, 0, -1, 0, -1, 0), Dues.STATE);
        Dues.due("record to 1099", () -> x.record(100, 0, -1, 0, -1, 0), Dues.STATE);
        Dues.due("record to 1000", () -> x.record(1, 0, -1, 0, -1, 0), 1000);
        Dues.due("record to 1001, one", () -> x.record(1, 0, -1, 0, -1, 0), Dues.STATE);
        sealed(x);
        Dues.due("fault(0)", () -> x.fault(0), 0);
        Dues.due("head(5)", () -> x.head(5), 1000);
        Dues.due("told(999, 2)", () -> x.told(999, 2), -1);
        Dues.due("to 1000 at once by 100", () -> Made.withRecords(900).record(100, 0, -1, 0, -1, 0), 1000);
        Dues.due("to 1001 at once by 100", () -> Made.withRecords(901).record(100, 0, -1, 0, -1, 0), Dues.STATE);
    }

    /** Of 15850 bytes on: 150 are left, 9 of them around a value of 141 bytes. */
    private static void moreThanSixteenThousandBytes() {
        Dues.by("record: illegal state: .. or their bytes (without a head), if it was sealed now, more than 16000");
        BatchBytes x = new BatchBytes();
        Made.fifty(x);
        Dues.due("record to 16001 bytes", () -> x.record(1, 0, -1, 0, 142, 0), Dues.STATE);
        Dues.due("record to 16000 bytes", () -> x.record(1, 0, -1, 0, 141, 0), 51);
        Dues.due("not the least one then", () -> x.record(1, 0, -1, 0, -1, 0), Dues.STATE);
        Dues.due("seal", () -> x.seal(0, 0, 0, 0), 16061);
        Dues.due("fault(0)", () -> x.fault(0), 0);
        Dues.due("told(50, 4)", () -> x.told(50, 4), 141);
        BatchBytes less = Made.withDraftBytes(140);
        Dues.due("15999 bytes", () -> less.seal(0, 0, 0, 0), 16060);
        BatchBytes seven = Made.withDraftBytes(134);
        Dues.due("7 bytes more to 16000", () -> seven.record(1, 0, -1, 0, -1, 0), 52);
        BatchBytes six = Made.withDraftBytes(135);
        Dues.due("7 bytes more to 16001", () -> six.record(1, 0, -1, 0, -1, 0), Dues.STATE);
        Dues.due("51 at once, 16167 bytes", () -> new BatchBytes().record(51, 0, 8, 0, 300, 0), Dues.STATE);
        Dues.due("100 at once, 31700 bytes", () -> new BatchBytes().record(100, 0, 8, 0, 300, 0), Dues.STATE);
    }

    /** Each way in which a record just fits beside fifty, and does not with one byte more. */
    private static void whatCountsAsTheDraftsBytes() {
        Dues.by("record: .. their bytes (without a head), if it was sealed now");
        fits("a time of one piece", 0, -1, 141, 63, true);
        fits("a time of two pieces", 0, -1, 141, 64, false);
        fits("a time of two pieces, a value byte less", 0, -1, 140, 8191, true);
        fits("a time of three pieces", 0, -1, 140, 8192, false);
        fits("a time of three pieces, two value bytes less", 0, -1, 139, 1000000, true);
        fits("a key of no byte", 0, 0, 141, 0, true);
        fits("a key byte, a value byte less", 0, 1, 140, 0, true);
        fits("a key byte", 0, 1, 141, 0, false);
        fits("a key of eight", 0, 8, 133, 0, true);
        fits("a key of eight and one byte more", 0, 8, 134, 0, false);
        // Behind fifty and fourteen least records, of 7 bytes each, a number takes two pieces.
        fits("number 63", 13, -1, 52, 0, true);
        fits("number 63 and a byte more", 13, -1, 53, 0, false);
        fits("number 64", 14, -1, 44, 0, true);
        fits("number 64 and a byte more", 14, -1, 45, 0, false);
    }

    private static void fits(String name, int before, int keyBytes, int valueBytes, int later, boolean holds) {
        BatchBytes x = new BatchBytes();
        Made.fifty(x);
        for (int i = 0; i < before; i++) {
            x.record(1, 0, -1, 0, -1, 0);
        }
        int want = 51 + before;
        String due = holds ? Integer.toString(want) : Dues.STATE;
        Dues.due(name, () -> x.record(1, 0, keyBytes, 0, valueBytes, later), due);
        if (holds) {
            Dues.due(name + ": seal", () -> x.seal(0, 0, 0, 0), 16061);
        }
    }

    private static void allComeOrNone() {
        Dues.by("record: (all n come, or none)");
        BatchBytes x = Made.withRecords(950);
        Dues.due("100 where 50 would fit", () -> x.record(100, 0, -1, 0, -1, 0), Dues.STATE);
        Dues.due("none came", () -> x.clear(), 950);
        BatchBytes y = new BatchBytes();
        Made.fifty(y);
        // 14 records of 7 bytes and 6 of 8, whose numbers have two pieces, are 146 of the 150 bytes left.
        Dues.due("21 where 20 would fit", () -> y.record(21, 0, -1, 0, -1, 0), Dues.STATE);
        Dues.due("none came", () -> y.record(1, 0, -1, 0, 141, 0), 51);
        Dues.due("how many there are", () -> y.clear(), 51);
        BatchBytes z = new BatchBytes();
        Made.fifty(z);
        Dues.due("20 that fit", () -> z.record(20, 0, -1, 0, -1, 0), 70);
    }

    private static void clearEmptiesTheDraft() {
        Dues.by("clear: The draft is empty then");
        BatchBytes x = new BatchBytes();
        x.record(50, 9, 8, 9, 300, 1000000);
        x.clear();
        Dues.due("the tape is as it was", () -> x.size(), 0);
        Dues.due("there is room again", () -> x.record(50, 0, 8, 0, 300, 0), 50);
        x.clear();
        Dues.due("numbers begin anew", () -> x.record(1, 7, 1, 0, -1, 0), 1);
        same("a batch after that", () -> afterClear(), oneRecord(row(7), null));
        BatchBytes y = Made.withRecords(1000);
        y.clear();
        Dues.due("a thousand more", () -> y.record(100, 0, -1, 0, -1, 0), 100);
        y.clear();
        Dues.due("seal without records", () -> y.seal(0, 0, 0, 0), 61);
    }

    private static BatchBytes afterClear() {
        BatchBytes x = new BatchBytes();
        x.record(3, 1, 2, 3, 4, 5);
        x.clear();
        x.record(1, 7, 1, 0, -1, 0);
        return sealed(x);
    }

    private static void clearAnswersHowManyItHad() {
        Dues.by("clear: .. how many records it had");
        Dues.due("clear() of none", () -> new BatchBytes().clear(), 0);
        BatchBytes x = Made.withRecords(1);
        Dues.due("clear() of one", () -> x.clear(), 1);
        Dues.due("clear() again", () -> x.clear(), 0);
        Dues.due("clear() of 1000", () -> Made.withRecords(1000).clear(), 1000);
        Dues.due("clear() after seal", () -> sealed(Made.withRecords(9)).clear(), 0);
    }

    private static void oneBatchByteByByte() {
        Dues.by("seal: The draft .. becomes a batch (BASE, TERM, FLAGS 0, MARK 2, time the FIRST TIME ..): how many bytes the tape has");
        BatchBytes x = new BatchBytes();
        x.record(2, 0x41FF, 2, 0x0102, 3, 63);
        Dues.due("seal", () -> x.seal(0x0102030405060708L, 0x00011122, 0x33445566, 0x010203L), 86);
        Bytes want = new Bytes();
        want.add(0, 0, 0, 0, 0, 0, 0, 0, 0, 0, 0, 74, 0, 0, 0, 0, 2, 0, 0, 0, 0, 0, 0, 0, 0, 0, 1);
        want.add(0, 0, 0, 0, 0, 1, 2, 3, 0, 0, 0, 0, 0, 1, 2, 3 + 64, 1, 2, 3, 4, 5, 6, 7, 8);
        want.add(0x11, 0x22, 0x33, 0x44, 0x55, 0x66, 0, 0, 0, 2);
        want.add(22, 0, 126, 0, 4, 0x41, 0xFF, 6, 2, 1, 0, 0);
        want.add(24, 0, 128, 1, 2, 4, 0x42, 0x00, 6, 3, 1, 0, 0);
        want.rightened();
        same("one batch", () -> x, want);
    }

    private static void batchWithoutRecords() {
        Dues.by("seal: The draft (without records, too) becomes a batch");
        Bytes want = new Bytes();
        want.add(0, 0, 0, 0, 0, 0, 0, 0, 0, 0, 0, 49, 0, 0, 0, 0, 2, 0, 0, 0, 0, 0, 0, 255, 255, 255, 255);
        want.add(0, 0, 0, 0, 0, 0, 0, 8, 0, 0, 0, 0, 0, 0, 0, 0, 0, 0, 0, 0, 0, 0, 0, 5, 0, 6, 0, 0, 0, 7, 0, 0, 0, 0);
        BatchBytes x = new BatchBytes();
        Dues.due("seal without records", () -> x.seal(5, 6, 7, 8), 61);
        same("a batch without records", () -> x, want.rightened());
        Dues.due("its fault", () -> x.fault(0), 2);
        Dues.due("its place", () -> x.fault(1), 57);
    }

    private static void batchBehindTheTapesBytes() {
        Dues.by("seal: .. becomes a batch behind the tape's bytes");
        Bytes want = new Bytes().number(-1, 8).number(-1, 8).number(-1, 4);
        want.add(Bytes.batch(1, 3, 3, Bytes.record(0, 0, row(0x5A), null)));
        want.add(Bytes.batch(0, 9, 0, new Bytes()));
        BatchBytes x = new BatchBytes();
        x.feed(-1, -1, -1, -1, -1);
        x.record(1, 0x5A, 1, 0, -1, 0);
        Dues.due("seal behind 20 bytes", () -> x.seal(-1, -1, -1, 3), 89);
        Dues.due("seal behind 89 bytes", () -> x.seal(-1, -1, -1, 9), 150);
        same("two batches behind twenty bytes", () -> x, want);
        Dues.due("the tape's fault", () -> x.fault(0), 1);
    }

    private static void greatestTimeOfTheRecords() {
        Dues.by("seal: .. GREATEST TIME that of its records");
        BatchBytes x = new BatchBytes();
        x.record(5, 0, 0, 0, 0, 100);
        x.record(2, 0, 0, 0, 0, 3);
        x.seal(0, 0, 0, 1000);
        Dues.due("not the last one's", () -> x.head(1), 1104);
        x.trim(x.size());
        x.record(1, 0, 0, 0, 0, 0);
        x.seal(0, 0, 0, 1000);
        Dues.due("the next batch's, of its own records alone", () -> x.head(1), 1000);
        x.trim(x.size());
        x.record(9, 0, 0, 0, 0, 7);
        x.clear();
        x.record(1, 0, 0, 0, 0, 0);
        x.seal(0, 0, 0, 0);
        Dues.due("not that of cleared ones", () -> x.head(1), 0);
        BatchBytes y = new BatchBytes();
        y.record(100, 0, 0, 0, 0, 1000000);
        y.seal(0, 0, 0, MOST_TIME);
        Dues.due("the most", () -> y.head(1), MOST_TIME + 1000099);
    }

    private static void greatestTimeWithoutRecords() {
        Dues.by("seal: .. GREATEST TIME .. 0 without any");
        same("a batch at 2^49", () -> sealedEmptyAt(MOST_TIME), Bytes.batch(0, MOST_TIME, 0, new Bytes()));
        same("a batch at 1", () -> sealedEmptyAt(1), Bytes.batch(0, 1, 0, new Bytes()));
    }

    private static BatchBytes sealedEmptyAt(long time) {
        BatchBytes x = Made.withRecords(2);
        x.clear();
        x.seal(-1, -1, -1, time);
        return x;
    }

    private static void lastIsCountLessOne() {
        Dues.by("seal: .. LAST COUNT - 1");
        int[] counts = {0, 1, 2, 256, 257, 1000};
        for (int count : counts) {
            BatchBytes x = sealed(Made.withRecords(count));
            for (int k = 0; k < 4; k++) {
                int place = k;
                Dues.due("LAST of " + count, () -> x.byteAt(23 + place), count - 1 >> 24 - 8 * k & 255);
                Dues.due("COUNT of " + count, () -> x.byteAt(57 + place), count >> 24 - 8 * k & 255);
            }
        }
    }

    private static void producer(String name, long producer, int epoch, int sequence, int... want) {
        BatchBytes x = Made.withRecords(1);
        x.seal(producer, epoch, sequence, 0);
        for (int i = 0; i < want.length; i++) {
            int place = 43 + i;
            Dues.due(name + ": byteAt(" + place + ")", () -> x.byteAt(place), want[i]);
        }
        Bytes all = Made.tapeOf(() -> x);
        Dues.due(name + ": check()", () -> x.check(), all.numberAt(17, 4).longValue());
    }

    private static void lowestBytesOfEpochAndSequence() {
        Dues.by("seal: .. EPOCH and SEQUENCE their lowest bytes");
        producer("0", 0, 0, 0, 0, 0, 0, 0, 0, 0, 0, 0, 0, 0, 0, 0, 0, 0);
        producer("32767", 0, 32767, HIGHEST, 0, 0, 0, 0, 0, 0, 0, 0, 127, 255, 127, 255, 255, 255);
        producer("32768", 0, 32768, LOWEST, 0, 0, 0, 0, 0, 0, 0, 0, 128, 0, 128, 0, 0, 0);
        producer("65535", 0, 65535, -1, 0, 0, 0, 0, 0, 0, 0, 0, 255, 255, 255, 255, 255, 255);
        producer("65536", 0, 65536, 65536, 0, 0, 0, 0, 0, 0, 0, 0, 0, 0, 0, 1, 0, 0);
        producer("-1", 0, -1, -2, 0, 0, 0, 0, 0, 0, 0, 0, 255, 255, 255, 255, 255, 254);
        producer("highest", 0, HIGHEST, 1, 0, 0, 0, 0, 0, 0, 0, 0, 255, 255, 0, 0, 0, 1);
        producer("lowest", 0, LOWEST, 1, 0, 0, 0, 0, 0, 0, 0, 0, 0, 0, 0, 0, 0, 1);
    }

    private static void producerIsWrittenAsItIs() {
        Dues.by("seal: Illegal argument: time is not 0 .. 2^49 (of no other number)");
        producer("-1", -1, 0, 0, 255, 255, 255, 255, 255, 255, 255, 255);
        producer("-2", -2, 0, 0, 255, 255, 255, 255, 255, 255, 255, 254);
        producer("2^50", 1L << 50, 0, 0, 0, 4, 0, 0, 0, 0, 0, 0);
        producer("2^50 + 1", (1L << 50) + 1, 0, 0, 0, 4, 0, 0, 0, 0, 0, 1);
        producer("highest", Long.MAX_VALUE, 0, 0, 127, 255, 255, 255, 255, 255, 255, 255);
        producer("lowest", Long.MIN_VALUE, 0, 0, 128, 0, 0, 0, 0, 0, 0, 0);
    }

    private static void draftIsEmptyAfterSeal() {
        Dues.by("seal: The draft .. is empty then");
        BatchBytes x = Made.withDraftBytes(141);
        x.seal(0, 0, 0, 0);
        Dues.due("clear()", () -> x.clear(), 0);
        Dues.due("its bytes are none", () -> x.record(50, 0, 8, 0, 300, 0), 50);
        BatchBytes y = Made.withRecords(1000);
        y.seal(0, 0, 0, 0);
        Dues.due("its records are none", () -> y.record(100, 0, -1, 0, -1, 0), 100);
        y.clear();
        y.trim(y.size());
        Dues.due("the next one is without records", () -> y.seal(0, 0, 0, 0), 61);
    }

    private static void sealTimeOutOfBounds() {
        Dues.by("seal: Illegal argument: time is not 0 .. 2^49");
        BatchBytes x = Made.withRecords(2);
        long[] bad = {Long.MIN_VALUE, -1, MOST_TIME + 1, 1L << 50, Long.MAX_VALUE};
        for (long time : bad) {
            Dues.due("seal at " + time, () -> x.seal(0, 0, 0, time), Dues.ARGUMENT);
        }
        Dues.due("the tape is as it was", () -> x.size(), 0);
        Dues.due("the draft is as it was", () -> x.record(1, 0, -1, 0, -1, 0), 3);
        Dues.due("seal at 2^49", () -> x.seal(0, 0, 0, MOST_TIME), 61 + 3 * 7);
        Dues.due("its first time", () -> x.head(0), MOST_TIME);
        BatchBytes y = Made.withRecords(1);
        Dues.due("seal at 0", () -> y.seal(0, 0, 0, 0), 68);
        Dues.due("its first time", () -> y.head(0), 0);
    }

    private static void sealBeyondTheTapesMost() {
        Dues.by("seal: illegal state: there would be more than 16384");
        Dues.due("an empty one to 16384", () -> Made.withBytes(16323).seal(0, 0, 0, 0), 16384);
        Dues.due("an empty one to 16385", () -> Made.withBytes(16324).seal(0, 0, 0, 0), Dues.STATE);
        Dues.due("an empty one behind a full tape", () -> Made.withBytes(16384).seal(0, 0, 0, 0), Dues.STATE);
        BatchBytes x = Made.withBytes(16311);
        x.record(1, 0, 6, 0, 0, 0);
        Dues.due("13 bytes of records to 16385", () -> x.seal(0, 0, 0, 0), Dues.STATE);
        Dues.due("the tape is as it was", () -> x.size(), 16311);
        Dues.due("the draft is as it was", () -> x.clear(), 1);
        x.record(1, 0, 5, 0, 0, 0);
        Dues.due("12 bytes of records to 16384", () -> x.seal(0, 0, 0, 0), 16384);
        BatchBytes y = Made.withBytes(323);
        Made.fifty(y);
        y.record(1, 0, -1, 0, 141, 0);
        Dues.due("the greatest batch to 16384", () -> y.seal(0, 0, 0, 0), 16384);
        BatchBytes z = Made.withBytes(324);
        Made.fifty(z);
        z.record(1, 0, -1, 0, 141, 0);
        Dues.due("the greatest batch to 16385", () -> z.seal(0, 0, 0, 0), Dues.STATE);
    }
}
