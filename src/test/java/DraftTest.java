/** Promises 6 to 8: record, clear, seal. */
public final class DraftTest {
    public static void main(String[] args) {
        oneBatchByteByByte();
        emptyBatch();
        keysAndValues();
        recordsOutOfBounds();
        recordsAtTheirBounds();
        recordsUpToAThousand();
        bytesUpToSixteenThousand();
        clearEmptiesTheDraft();
        sealOutOfBounds();
        sealWhereThereIsNoRoom();
        sealBehindOtherBytes();
        headOfWhateverNumbers();
        greatestTimeIsNotTheLastOne();
        Dues.end();
    }

    /** Beyond the first 400 bytes by the checksum alone: an object is used for at most 512 calls. */
    private static void same(String name, BatchBytes x, Bytes want) {
        Dues.due(name + ": size()", () -> x.size(), want.size());
        for (int i = 0; i < want.size() && i < 400; i++) {
            int place = i;
            Dues.due(name + ": byteAt(" + i + ")", () -> x.byteAt(place), want.get(i));
        }
        Dues.due(name + ": check()", () -> x.check(), want.checksumFrom(21));
    }

    private static void oneBatchByteByByte() {
        BatchBytes x = new BatchBytes();
        Dues.due("record", () -> x.record(2, 0x41FF, 2, 0x0102, 3, 63), 2);
        Dues.due("seal", () -> x.seal(0x0102030405060708L, 0x00011122, 0x33445566, 0x010203L), 86);
        Bytes want = new Bytes();
        want.add(0, 0, 0, 0, 0, 0, 0, 0, 0, 0, 0, 74, 0, 0, 0, 0, 2, 0, 0, 0, 0, 0, 0, 0, 0, 0, 1);
        want.add(0, 0, 0, 0, 0, 1, 2, 3, 0, 0, 0, 0, 0, 1, 2, 3 + 64, 1, 2, 3, 4, 5, 6, 7, 8);
        want.add(0x11, 0x22, 0x33, 0x44, 0x55, 0x66, 0, 0, 0, 2);
        want.add(22, 0, 126, 0, 4, 0x41, 0xFF, 6, 2, 1, 0, 0);
        want.add(24, 0, 128, 1, 2, 4, 0x42, 0x00, 6, 3, 1, 0, 0);
        want.rightened();
        Dues.due("the test's own size", () -> want.size(), 86);
        same("one batch", x, want);
        Dues.due("its draft is empty then", () -> x.clear(), 0);
    }

    private static void emptyBatch() {
        BatchBytes x = new BatchBytes();
        Dues.due("seal without records", () -> x.seal(5, 6, 7, 8), 61);
        Bytes want = Bytes.batch(0, 8, 0, new Bytes());
        want.setNumber(43, 5, 8);
        want.setNumber(51, 6, 2);
        want.setNumber(53, 7, 4);
        same("a batch without records", x, want.rightened());
        Dues.due("its fault", () -> x.fault(0), 2);
        Dues.due("its place", () -> x.fault(1), 57);
    }

    private static void keysAndValues() {
        for (int keyBytes = -1; keyBytes <= 8; keyBytes++) {
            int[] lengths = {-1, 0, 1, 7, 8, 9, 17, 63, 64, 127, 128, 300};
            BatchBytes x = new BatchBytes();
            Model model = new Model();
            for (int valueBytes : lengths) {
                // The second record's key and value go round from the highest number to the lowest.
                x.record(2, Long.MAX_VALUE, keyBytes, Long.MAX_VALUE, valueBytes, 62);
                model.record(2, Long.MAX_VALUE, keyBytes, Long.MAX_VALUE, valueBytes, 62);
                x.record(3, 0x0102030405FFFEFFL, keyBytes, 0xF1F2F3F4F5F6F7FFL, valueBytes, 8190);
                model.record(3, 0x0102030405FFFEFFL, keyBytes, 0xF1F2F3F4F5F6F7FFL, valueBytes, 8190);
            }
            x.seal(-1, -1, -1, 1L << 49);
            model.seal(-1, -1, -1, 1L << 49);
            Bytes want = new Bytes();
            for (int i = 0; i < model.size(); i++) {
                want.add(model.byteAt(i));
            }
            same("keys of " + keyBytes, x, want);
        }
    }

    private static void recordsOutOfBounds() {
        BatchBytes x = new BatchBytes();
        x.record(3, 1, 1, 1, 1, 1);
        int[] bad = {Integer.MIN_VALUE, -2, Integer.MAX_VALUE};
        for (int b : bad) {
            Dues.due("record n " + b, () -> x.record(b, 0, 0, 0, 0, 0), Dues.ARGUMENT);
            Dues.due("record keyBytes " + b, () -> x.record(1, 0, b, 0, 0, 0), Dues.ARGUMENT);
            Dues.due("record valueBytes " + b, () -> x.record(1, 0, 0, 0, b, 0), Dues.ARGUMENT);
            Dues.due("record later " + b, () -> x.record(1, 0, 0, 0, 0, b), Dues.ARGUMENT);
        }
        Dues.due("record n 0", () -> x.record(0, 0, 0, 0, 0, 0), Dues.ARGUMENT);
        Dues.due("record n 101", () -> x.record(101, 0, 0, 0, 0, 0), Dues.ARGUMENT);
        Dues.due("record keyBytes 9", () -> x.record(1, 0, 9, 0, 0, 0), Dues.ARGUMENT);
        Dues.due("record valueBytes 301", () -> x.record(1, 0, 0, 0, 301, 0), Dues.ARGUMENT);
        Dues.due("record later -1", () -> x.record(1, 0, 0, 0, 0, -1), Dues.ARGUMENT);
        Dues.due("record later 1000001", () -> x.record(1, 0, 0, 0, 0, 1000001), Dues.ARGUMENT);
        Dues.due("the draft is as it was", () -> x.clear(), 3);
    }

    private static void recordsAtTheirBounds() {
        BatchBytes x = new BatchBytes();
        Dues.due("record n 1", () -> x.record(1, 0, -1, 0, -1, 0), 1);
        Dues.due("record n 100", () -> x.record(100, 0, -1, 0, -1, 0), 101);
        Dues.due("record of the most bytes", () -> x.record(1, -1, 8, -1, 300, 1000000), 102);
        Dues.due("record of the latest ones", () -> x.record(100, 0, 0, 0, 0, 1000000), 202);
        x.seal(0, 0, 0, 1L << 49);
        Dues.due("no fault", () -> x.fault(0), 0);
        Dues.due("the greatest time", () -> x.head(1), (1L << 49) + 1000099);
        Dues.due("the last one's time", () -> x.told(201, 1), (1L << 49) + 1000099);
    }

    private static void recordsUpToAThousand() {
        BatchBytes x = new BatchBytes();
        for (int i = 1; i <= 9; i++) {
            int want = 100 * i;
            Dues.due("record to " + want, () -> x.record(100, 0, 0, 0, 0, 0), want);
        }
        Dues.due("record to 999", () -> x.record(99, 0, -1, 0, -1, 0), 999);
        Dues.due("record to 1001", () -> x.record(2, 0, -1, 0, -1, 0), Dues.STATE);
        Dues.due("record to 1099 with a bad number", () -> x.record(100, 0, 9, 0, 0, 0), Dues.ARGUMENT);
        Dues.due("record to 1000", () -> x.record(1, 0, -1, 0, -1, 0), 1000);
        Dues.due("record to 1001, one", () -> x.record(1, 0, -1, 0, -1, 0), Dues.STATE);
        x.seal(0, 0, 0, 0);
        Dues.due("no fault", () -> x.fault(0), 0);
        Dues.due("how many", () -> x.head(5), 1000);
        Dues.due("the last one's time", () -> x.told(999, 1), 0);
        Dues.due("the draft takes again", () -> x.record(100, 0, 0, 0, 0, 0), 100);
    }

    /** 50 records with the longest keys and values have 317 bytes each, 15850 in all. */
    private static void bytesUpToSixteenThousand() {
        BatchBytes x = new BatchBytes();
        Dues.due("record to 15850", () -> x.record(50, 0, 8, 0, 300, 0), 50);
        // 150 bytes are left: 2 for the length, 5 around the value, 2 for how many it has, 141 of it.
        Dues.due("one byte too many", () -> x.record(1, 0, 0, 0, 142, 0), Dues.STATE);
        Dues.due("nor a later time", () -> x.record(1, 0, 0, 0, 141, 64), Dues.STATE);
        Dues.due("nor two", () -> x.record(2, 0, 0, 0, 100, 0), Dues.STATE);
        Dues.due("the draft is as it was", () -> x.record(1, 0, 0, 0, 141, 63), 51);
        Dues.due("not the least one", () -> x.record(1, 0, -1, 0, -1, 0), Dues.STATE);
        Dues.due("seal", () -> x.seal(0, 0, 0, 0), 16061);
        Dues.due("no fault", () -> x.fault(0), 0);
        Dues.due("the draft has room again", () -> x.record(50, 0, 8, 0, 300, 0), 50);
    }

    private static void clearEmptiesTheDraft() {
        BatchBytes x = new BatchBytes();
        x.record(50, 0, 8, 0, 300, 1000);
        Dues.due("clear", () -> x.clear(), 50);
        Dues.due("clear again", () -> x.clear(), 0);
        Dues.due("the tape is as it was", () -> x.size(), 0);
        Dues.due("room again", () -> x.record(50, 0, 8, 0, 300, 0), 50);
        x.clear();
        x.record(1, 7, 1, 0, -1, 2);
        x.seal(0, 0, 0, 10);
        Dues.due("how many", () -> x.head(5), 1);
        Dues.due("the greatest time", () -> x.head(1), 12);
        Dues.due("the key", () -> x.told(0, 3), 7);
    }

    private static void sealOutOfBounds() {
        BatchBytes x = new BatchBytes();
        x.record(2, 0, 0, 0, 0, 0);
        Dues.due("seal time -1", () -> x.seal(0, 0, 0, -1), Dues.ARGUMENT);
        Dues.due("seal time lowest", () -> x.seal(0, 0, 0, Long.MIN_VALUE), Dues.ARGUMENT);
        Dues.due("seal time 2^49 + 1", () -> x.seal(0, 0, 0, (1L << 49) + 1), Dues.ARGUMENT);
        Dues.due("seal time highest", () -> x.seal(0, 0, 0, Long.MAX_VALUE), Dues.ARGUMENT);
        Dues.due("the tape is as it was", () -> x.size(), 0);
        Dues.due("the draft is as it was", () -> x.record(1, 0, 0, 0, 0, 0), 3);
        Dues.due("seal time 2^49", () -> x.seal(0, 0, 0, 1L << 49), 61 + 3 * 7);
        Dues.due("its first time", () -> x.head(0), 1L << 49);
    }

    private static void sealWhereThereIsNoRoom() {
        BatchBytes x = new BatchBytes();
        x.record(50, 0, 8, 0, 300, 0);
        x.seal(0, 0, 0, 0);
        x.record(50, 0, 8, 0, 300, 0);
        Dues.due("seal", () -> x.seal(0, 0, 0, 0), Dues.STATE);
        Dues.due("seal with a bad time too", () -> x.seal(0, 0, 0, -1), Dues.ARGUMENT);
        Dues.due("the tape is as it was", () -> x.size(), 15911);
        Dues.due("it still has no fault", () -> x.fault(0), 0);
        Dues.due("the draft is as it was", () -> x.clear(), 50);
        for (int i = 0; i < 20; i++) {
            x.feed(0, 0, 0, 0, 0);
        }
        // 16311 bytes: 73 are left, so a batch of 12 bytes of records fits and one of 13 does not.
        x.record(1, 0, 6, 0, 0, 0);
        Dues.due("one byte too many", () -> x.seal(0, 0, 0, 0), Dues.STATE);
        x.clear();
        x.record(1, 0, 5, 0, 0, 0);
        Dues.due("to the last byte", () -> x.seal(0, 0, 0, 0), 16384);
    }

    private static void sealBehindOtherBytes() {
        BatchBytes x = new BatchBytes();
        x.feed(-1, -1, -1, -1, -1);
        x.record(1, 0x5A, 1, 0, -1, 0);
        x.seal(-1, -1, -1, 3);
        Bytes want = new Bytes().number(-1, 8).number(-1, 8).number(-1, 4);
        want.add(Bytes.batch(1, 3, 3, Bytes.record(0, 0, new int[] {0x5A}, null)));
        same("a batch behind twenty bytes", x, want);
        Dues.due("the tape's fault", () -> x.fault(0), 1);
    }

    private static void headOfWhateverNumbers() {
        BatchBytes x = new BatchBytes();
        x.record(1, 0, -1, 0, -1, 0);
        x.seal(Long.MIN_VALUE, Integer.MIN_VALUE, Integer.MIN_VALUE, 0);
        Bytes want = Bytes.batch(1, 0, 0, Bytes.record(0, 0, null, null));
        want.setNumber(43, Long.MIN_VALUE, 8);
        want.setNumber(51, 0, 2);
        want.setNumber(53, Integer.MIN_VALUE, 4);
        same("a batch of low numbers", x, want.rightened());
        Dues.due("its fault's place", () -> x.fault(1), 43);
    }

    private static void greatestTimeIsNotTheLastOne() {
        BatchBytes x = new BatchBytes();
        x.record(5, 0, 0, 0, 0, 100);
        x.record(2, 0, 0, 0, 0, 3);
        x.seal(0, 0, 0, 1000);
        Dues.due("the greatest time", () -> x.head(1), 1104);
        Dues.due("no fault", () -> x.fault(0), 0);
        x.trim(x.size());
        x.record(2, 0, 0, 0, 0, 3);
        x.seal(0, 0, 0, 1000);
        Dues.due("the next one's greatest time", () -> x.head(1), 1004);
    }
}
