/** Promises 1 to 5, 9 and 10: a new object, feed, trim, spoil, check, size, byteAt; a method for each sentence. */
public final class TapeTest {
    private static final int LOWEST = Integer.MIN_VALUE;
    private static final int HIGHEST = Integer.MAX_VALUE;

    public static void main(String[] args) {
        newTapeIsEmpty();
        newDraftIsEmpty();
        newObjectsShareNothing();
        feedGivesTheHighestByteFirst();
        feedComesBehindTheTape();
        feedStopsAtTheMost();
        trimTakesFromTheEnd();
        trimOfFewerThanNone();
        trimOfMoreThanThereAre();
        spoilTurnsBits();
        spoilOfNoSuchByte();
        spoilByNoByte();
        checkPutsTheChecksumRight();
        checkAnswersWithASign();
        checkOfLessThanAHead();
        checkOfAFullTape();
        sizeOfTheTape();
        byteAtTellsABytesNumber();
        byteAtOfNoSuchByte();
        Dues.end();
    }

    private static void newTapeIsEmpty() {
        Dues.by("BatchBytes(): An empty tape");
        BatchBytes x = new BatchBytes();
        Dues.due("size() of a new object", () -> x.size(), 0);
        Dues.due("byteAt(0) of a new object", () -> x.byteAt(0), Dues.ARGUMENT);
        Dues.due("spoil(0, 0) of a new object", () -> x.spoil(0, 0), Dues.ARGUMENT);
        Dues.due("trim(0) of a new object", () -> x.trim(0), 0);
        Dues.due("trim(1) of a new object", () -> x.trim(1), Dues.ARGUMENT);
        Dues.due("fault(0) of a new object", () -> x.fault(0), 1);
        Dues.due("fault(1) of a new object", () -> x.fault(1), 8);
        Dues.due("head(0) of a new object", () -> x.head(0), Dues.ARGUMENT);
        Dues.due("told(0, 0) of a new object", () -> x.told(0, 0), Dues.ARGUMENT);
    }

    private static void newDraftIsEmpty() {
        Dues.by("BatchBytes(): .. an empty draft");
        Dues.due("clear() of a new object", () -> new BatchBytes().clear(), 0);
        Dues.due("the first record()", () -> new BatchBytes().record(1, 0, 0, 0, 0, 0), 1);
        Dues.due("seal() of a new object", () -> new BatchBytes().seal(0, 0, 0, 0), 61);
    }

    private static void newObjectsShareNothing() {
        Dues.by("BatchBytes(): An empty tape, an empty draft.");
        BatchBytes x = new BatchBytes();
        x.feed(1, 2, 3, 4, 5);
        x.record(3, 0, 0, 0, 0, 0);
        BatchBytes other = new BatchBytes();
        Dues.due("size() beside another object", () -> other.size(), 0);
        Dues.due("clear() beside another object", () -> other.clear(), 0);
        Dues.due("size() of the first one", () -> x.size(), 20);
        Dues.due("clear() of the first one", () -> x.clear(), 3);
    }

    private static void bytes(BatchBytes x, int from, int... want) {
        for (int i = 0; i < want.length; i++) {
            int place = from + i;
            Dues.due("byteAt(" + place + ")", () -> x.byteAt(place), want[i]);
        }
    }

    private static void feedGivesTheHighestByteFirst() {
        Dues.by("feed: Twenty bytes .., the highest byte of each of the five first: how many it has");
        BatchBytes x = new BatchBytes();
        Dues.due("feed", () -> x.feed(0x01020304, -1, 0x80FF007F, LOWEST, HIGHEST), 20);
        bytes(x, 0, 1, 2, 3, 4, 255, 255, 255, 255, 128, 255, 0, 127, 128, 0, 0, 0, 127, 255, 255, 255);
        Dues.due("byteAt(20)", () -> x.byteAt(20), Dues.ARGUMENT);
    }

    private static void feedComesBehindTheTape() {
        Dues.by("feed: Twenty bytes come behind the tape");
        BatchBytes x = new BatchBytes();
        x.feed(1, 2, 3, 4, 0x05060708);
        Dues.due("feed again", () -> x.feed(0x090A0B0C, 0, 0, 0, 0), 40);
        bytes(x, 16, 5, 6, 7, 8, 9, 10, 11, 12);
        x.trim(22);
        Dues.due("feed where two of its bytes went", () -> x.feed(0x0D0E0F10, 0, 0, 0, 0x11121314), 38);
        bytes(x, 16, 5, 6, 13, 14, 15, 16, 0);
        bytes(x, 34, 17, 18, 19, 20);
    }

    private static void feedStopsAtTheMost() {
        Dues.by("feed: Illegal state: there would be more than 16384");
        Dues.due("feed to 16383", () -> Made.withBytes(16363).feed(1, 2, 3, 4, 5), 16383);
        BatchBytes last = Made.withBytes(16364);
        Dues.due("feed to 16384", () -> last.feed(1, 2, 3, 4, 5), 16384);
        bytes(last, 16380, 0, 0, 0, 5);
        Dues.due("feed of a full tape", () -> last.feed(0, 0, 0, 0, 0), Dues.STATE);
        BatchBytes one = Made.withBytes(16365);
        Dues.due("feed to 16385", () -> one.feed(1, 2, 3, 4, 5), Dues.STATE);
        Dues.due("size() after that", () -> one.size(), 16365);
        BatchBytes almost = Made.withBytes(16383);
        Dues.due("feed with one byte of room", () -> almost.feed(1, 2, 3, 4, 5), Dues.STATE);
        Dues.due("trim(16383) makes room", () -> almost.trim(16383), 0);
        Dues.due("feed then", () -> almost.feed(1, 2, 3, 4, 5), 20);
    }

    private static void trimTakesFromTheEnd() {
        Dues.by("trim: The last n bytes of the tape go: how many it has");
        BatchBytes x = new BatchBytes();
        x.feed(0x01020304, 0, 0, 0, 0x05060708);
        Dues.due("trim(2)", () -> x.trim(2), 18);
        bytes(x, 15, 0, 5, 6);
        Dues.due("byteAt(18)", () -> x.byteAt(18), Dues.ARGUMENT);
        Dues.due("trim(1)", () -> x.trim(1), 17);
        bytes(x, 0, 1, 2, 3, 4);
        Dues.due("byteAt(17)", () -> x.byteAt(17), Dues.ARGUMENT);
    }

    private static void trimOfFewerThanNone() {
        Dues.by("trim: Illegal argument: n is below 0");
        BatchBytes x = Made.withBytes(20);
        Dues.due("trim(-1)", () -> x.trim(-1), Dues.ARGUMENT);
        Dues.due("trim(lowest)", () -> x.trim(LOWEST), Dues.ARGUMENT);
        Dues.due("size() after these", () -> x.size(), 20);
        Dues.due("trim(0)", () -> x.trim(0), 20);
        Dues.due("trim(-1) of an empty tape", () -> new BatchBytes().trim(-1), Dues.ARGUMENT);
    }

    private static void trimOfMoreThanThereAre() {
        Dues.by("trim: Illegal argument: .. or more than there are");
        BatchBytes x = Made.withBytes(20);
        Dues.due("trim(21) of 20", () -> x.trim(21), Dues.ARGUMENT);
        Dues.due("trim(highest) of 20", () -> x.trim(HIGHEST), Dues.ARGUMENT);
        Dues.due("size() after these", () -> x.size(), 20);
        Dues.due("trim(19) of 20", () -> x.trim(19), 1);
        Dues.due("trim(2) of 1", () -> x.trim(2), Dues.ARGUMENT);
        Dues.due("trim(1) of 1", () -> x.trim(1), 0);
        Dues.due("trim(1) of none", () -> x.trim(1), Dues.ARGUMENT);
        BatchBytes full = Made.withBytes(16384);
        Dues.due("trim(16385) of 16384", () -> full.trim(16385), Dues.ARGUMENT);
        Dues.due("trim(16384) of 16384", () -> full.trim(16384), 0);
    }

    private static void spoilTurnsBits() {
        Dues.by("spoil: Byte i of the tape becomes itself ^ x: what it is then, 0 .. 255");
        BatchBytes x = new BatchBytes();
        x.feed(0x80000000, 0, 0, 0, 1);
        Dues.due("spoil(0, 1)", () -> x.spoil(0, 1), 129);
        Dues.due("spoil(0, 126)", () -> x.spoil(0, 126), 255);
        Dues.due("spoil(0, 255)", () -> x.spoil(0, 255), 0);
        Dues.due("spoil(19, 128)", () -> x.spoil(19, 128), 129);
        bytes(x, 0, 0, 0, 0);
        bytes(x, 17, 0, 0, 129);
    }

    private static void spoilOfNoSuchByte() {
        Dues.by("spoil: Illegal argument: there is no such byte");
        BatchBytes x = new BatchBytes();
        x.feed(0x01000000, 0, 0, 0, 2);
        Dues.due("spoil(-1, 1)", () -> x.spoil(-1, 1), Dues.ARGUMENT);
        Dues.due("spoil(lowest, 1)", () -> x.spoil(LOWEST, 1), Dues.ARGUMENT);
        Dues.due("spoil(0, 2)", () -> x.spoil(0, 2), 3);
        Dues.due("spoil(19, 1)", () -> x.spoil(19, 1), 3);
        Dues.due("spoil(20, 1)", () -> x.spoil(20, 1), Dues.ARGUMENT);
        Dues.due("spoil(highest, 1)", () -> x.spoil(HIGHEST, 1), Dues.ARGUMENT);
        x.trim(1);
        Dues.due("spoil(19, 1) when it went", () -> x.spoil(19, 1), Dues.ARGUMENT);
        Dues.due("spoil(18, 1)", () -> x.spoil(18, 1), 1);
        BatchBytes full = Made.withBytes(16384);
        Dues.due("spoil(16384, 1)", () -> full.spoil(16384, 1), Dues.ARGUMENT);
        Dues.due("spoil(16383, 255)", () -> full.spoil(16383, 255), 255 ^ 0x14);
    }

    private static void spoilByNoByte() {
        Dues.by("spoil: Illegal argument: .. or x is not 0 .. 255");
        BatchBytes x = new BatchBytes();
        x.feed(0, 0, 0, 0, 0x81);
        Dues.due("spoil(19, -1)", () -> x.spoil(19, -1), Dues.ARGUMENT);
        Dues.due("spoil(19, lowest)", () -> x.spoil(19, LOWEST), Dues.ARGUMENT);
        Dues.due("spoil(19, 256)", () -> x.spoil(19, 256), Dues.ARGUMENT);
        Dues.due("spoil(19, highest)", () -> x.spoil(19, HIGHEST), Dues.ARGUMENT);
        Dues.due("spoil(19, 0)", () -> x.spoil(19, 0), 0x81);
        Dues.due("spoil(19, 255)", () -> x.spoil(19, 255), 0x7E);
        Dues.due("spoil(20, 256)", () -> x.spoil(20, 256), Dues.ARGUMENT);
    }

    /** A tape with another bit than 0 in every byte. */
    private static BatchBytes mixed(int n) {
        BatchBytes x = new BatchBytes();
        for (int i = 0; i < n; i += 20) {
            x.feed(0xF1F2F3F4 + i, 0x35363738, 0x9A9B9C9D - i, 0x51525354, 0x77787980 ^ i);
        }
        x.trim(x.size() - n);
        return x;
    }

    private static void checkPutsTheChecksumRight() {
        Dues.by("check: The tape's CHECKSUM is put right: it");
        int[] sizes = {61, 62, 100, 1999};
        for (int size : sizes) {
            Bytes want = Made.tapeOf(() -> mixed(size));
            BatchBytes x = mixed(size);
            Dues.due("check() of " + size, () -> x.check(), want.checksumFrom(21));
            Dues.due("check() again", () -> x.check(), want.checksumFrom(21));
            String seen = Made.tapeOf(() -> checked(size)).toString();
            Dues.due("the bytes of " + size + " after check()", seen, want.rightened().toString());
        }
    }

    private static BatchBytes checked(int size) {
        BatchBytes x = mixed(size);
        x.check();
        return x;
    }

    private static void checkAnswersWithASign() {
        Dues.by("check: .. it (as a number with a sign)");
        int below = 0;
        int above = 0;
        for (int b = 0; b < 16; b++) {
            BatchBytes x = mixed(61);
            x.spoil(60, b);
            int answer = x.check();
            below += answer < 0 ? 1 : 0;
            above += answer > 0 ? 1 : 0;
            Dues.due("byte 17 of " + answer, () -> x.byteAt(17), answer >>> 24);
            Dues.due("byte 20 of " + answer, () -> x.byteAt(20), answer & 255);
        }
        int seenBelow = below;
        int seenAbove = above;
        Dues.due("some were below 0", () -> seenBelow > 0 ? 1 : 0, 1);
        Dues.due("some were above 0", () -> seenAbove > 0 ? 1 : 0, 1);
    }

    private static void checkOfLessThanAHead() {
        Dues.by("check: NONE, changing nothing, when there are less than 61 bytes");
        int[] sizes = {0, 1, 17, 20, 21, 22, 60};
        for (int size : sizes) {
            String before = Made.tapeOf(() -> mixed(size)).toString();
            Dues.due("check() of " + size, () -> mixed(size).check(), BatchBytes.NONE);
            Dues.due("the bytes after that", Made.tapeOf(() -> checked(size)).toString(), before);
        }
        BatchBytes x = mixed(61);
        int answer = Made.tapeOf(() -> mixed(61)).checksumFrom(21);
        Dues.due("check() of 61", () -> x.check(), answer);
    }

    private static void checkOfAFullTape() {
        Dues.by("check: The tape's CHECKSUM is put right");
        Bytes want = Made.tapeOf(() -> Made.withBytes(16384));
        Dues.due("check() of 16384", () -> Made.withBytes(16384).check(), want.checksumFrom(21));
    }

    private static void sizeOfTheTape() {
        Dues.by("size: How many bytes the tape has");
        BatchBytes x = new BatchBytes();
        Dues.due("size() at first", () -> x.size(), 0);
        x.feed(0, 0, 0, 0, 0);
        Dues.due("size() after feed", () -> x.size(), 20);
        x.spoil(3, 3);
        x.record(2, 0, 0, 0, 0, 0);
        Dues.due("size() after spoil and record", () -> x.size(), 20);
        x.seal(0, 0, 0, 0);
        Dues.due("size() after seal", () -> x.size(), 95);
        x.check();
        x.clear();
        Dues.due("size() after check and clear", () -> x.size(), 95);
        x.trim(95);
        Dues.due("size() after trim", () -> x.size(), 0);
        Dues.due("size() of a full tape", () -> Made.withBytes(16384).size(), 16384);
    }

    private static void byteAtTellsABytesNumber() {
        Dues.by("byteAt: Byte i of the tape, 0 .. 255");
        BatchBytes x = new BatchBytes();
        for (int b = 0; b < 256; b += 20) {
            x.feed(four(b), four(b + 4), four(b + 8), four(b + 12), four(b + 16));
        }
        for (int b = 0; b < 256; b++) {
            bytes(x, b, b);
        }
    }

    private static int four(int b) {
        return (b << 24) + (b + 1 << 16) + (b + 2 << 8) + b + 3;
    }

    private static void byteAtOfNoSuchByte() {
        Dues.by("byteAt: Illegal argument: there is none such");
        BatchBytes x = new BatchBytes();
        x.feed(0x01000000, 0, 0, 0, 2);
        Dues.due("byteAt(-1)", () -> x.byteAt(-1), Dues.ARGUMENT);
        Dues.due("byteAt(lowest)", () -> x.byteAt(LOWEST), Dues.ARGUMENT);
        bytes(x, 0, 1);
        bytes(x, 19, 2);
        Dues.due("byteAt(20)", () -> x.byteAt(20), Dues.ARGUMENT);
        Dues.due("byteAt(highest)", () -> x.byteAt(HIGHEST), Dues.ARGUMENT);
        x.trim(1);
        Dues.due("byteAt(19) when it went", () -> x.byteAt(19), Dues.ARGUMENT);
        bytes(x, 18, 0);
        BatchBytes full = Made.withBytes(16384);
        bytes(full, 16383, 0x14);
        Dues.due("byteAt(16384)", () -> full.byteAt(16384), Dues.ARGUMENT);
    }
}
