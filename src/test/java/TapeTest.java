/** Promises 1 to 5, 9 and 10: a new object, feed, trim, spoil, check, size, byteAt. */
public final class TapeTest {
    public static void main(String[] args) {
        newObject();
        feedGivesTheHighestByteFirst();
        feedStopsAtTheMost();
        trimTakesFromTheEnd();
        spoilFlipsBits();
        checkPutsTheChecksumRight();
        checkOfAFullTape();
        Dues.end();
    }

    private static void newObject() {
        BatchBytes x = new BatchBytes();
        Dues.due("size() of a new object", () -> x.size(), 0);
        Dues.due("byteAt(0) of a new object", () -> x.byteAt(0), Dues.ARGUMENT);
        Dues.due("clear() of a new object", () -> x.clear(), 0);
        Dues.due("fault(0) of a new object", () -> x.fault(0), 1);
        Dues.due("fault(1) of a new object", () -> x.fault(1), 8);
        Dues.due("head(0) of a new object", () -> x.head(0), Dues.ARGUMENT);
        Dues.due("told(0, 0) of a new object", () -> x.told(0, 0), Dues.ARGUMENT);
        Dues.due("trim(0) of a new object", () -> x.trim(0), 0);
        Dues.due("trim(1) of a new object", () -> x.trim(1), Dues.ARGUMENT);
        Dues.due("spoil(0, 0) of a new object", () -> x.spoil(0, 0), Dues.ARGUMENT);
        Dues.due("check() of a new object", () -> x.check(), BatchBytes.NONE);
        BatchBytes other = new BatchBytes();
        other.feed(1, 2, 3, 4, 5);
        Dues.due("size() beside another object", () -> x.size(), 0);
    }

    private static void feedGivesTheHighestByteFirst() {
        BatchBytes x = new BatchBytes();
        Dues.due("feed", () -> x.feed(0x01020304, -1, 0x80FF007F, Integer.MIN_VALUE, Integer.MAX_VALUE), 20);
        int[] want = {1, 2, 3, 4, 255, 255, 255, 255, 128, 255, 0, 127, 128, 0, 0, 0, 127, 255, 255, 255};
        for (int i = 0; i < 20; i++) {
            int place = i;
            Dues.due("byteAt(" + i + ")", () -> x.byteAt(place), want[i]);
        }
        Dues.due("byteAt(20)", () -> x.byteAt(20), Dues.ARGUMENT);
        Dues.due("byteAt(-1)", () -> x.byteAt(-1), Dues.ARGUMENT);
        Dues.due("byteAt(lowest)", () -> x.byteAt(Integer.MIN_VALUE), Dues.ARGUMENT);
        Dues.due("byteAt(highest)", () -> x.byteAt(Integer.MAX_VALUE), Dues.ARGUMENT);
        Dues.due("feed again", () -> x.feed(9, 0, 0, 0, 0), 40);
        Dues.due("byteAt(23)", () -> x.byteAt(23), 9);
        Dues.due("byteAt(19)", () -> x.byteAt(19), 255);
    }

    /** A batch of 15911 bytes first: twenties alone would take more calls than an object has. */
    private static void feedStopsAtTheMost() {
        BatchBytes x = new BatchBytes();
        x.record(50, 0, 8, 0, 300, 0);
        Dues.due("seal", () -> x.seal(0, 0, 0, 0), 61 + 50 * 317);
        Dues.due("trim", () -> x.trim(7), 15904);
        for (int want = 15924; want <= 16384; want += 20) {
            int size = want;
            Dues.due("feed to " + size, () -> x.feed(7, 0, 0, 0, 8), size);
        }
        Dues.due("feed beyond 16384", () -> x.feed(7, 0, 0, 0, 8), Dues.STATE);
        Dues.due("size() of a full tape", () -> x.size(), 16384);
        Dues.due("byteAt(16383)", () -> x.byteAt(16383), 8);
        Dues.due("byteAt(16384)", () -> x.byteAt(16384), Dues.ARGUMENT);
        Dues.due("spoil(16383, 255)", () -> x.spoil(16383, 255), 247);
        Dues.due("spoil(16384, 255)", () -> x.spoil(16384, 255), Dues.ARGUMENT);
        Dues.due("seal behind a full tape", () -> x.seal(0, 0, 0, 0), Dues.STATE);
        Dues.due("trim(1)", () -> x.trim(1), 16383);
        Dues.due("feed with one byte of room", () -> x.feed(7, 0, 0, 0, 8), Dues.STATE);
        Dues.due("trim(18)", () -> x.trim(18), 16365);
        Dues.due("feed with 19 bytes of room", () -> x.feed(7, 0, 0, 0, 8), Dues.STATE);
        Dues.due("size() after that", () -> x.size(), 16365);
        Dues.due("trim(16365)", () -> x.trim(16365), 0);
        Dues.due("feed an empty tape again", () -> x.feed(1, 0, 0, 0, 0), 20);
    }

    private static void trimTakesFromTheEnd() {
        BatchBytes x = new BatchBytes();
        x.feed(0x01020304, 0, 0, 0, 0x05060708);
        Dues.due("trim(-1)", () -> x.trim(-1), Dues.ARGUMENT);
        Dues.due("trim(lowest)", () -> x.trim(Integer.MIN_VALUE), Dues.ARGUMENT);
        Dues.due("trim(21)", () -> x.trim(21), Dues.ARGUMENT);
        Dues.due("trim(highest)", () -> x.trim(Integer.MAX_VALUE), Dues.ARGUMENT);
        Dues.due("size() after these", () -> x.size(), 20);
        Dues.due("trim(0)", () -> x.trim(0), 20);
        Dues.due("trim(2)", () -> x.trim(2), 18);
        Dues.due("byteAt(17)", () -> x.byteAt(17), 6);
        Dues.due("byteAt(18)", () -> x.byteAt(18), Dues.ARGUMENT);
        Dues.due("feed behind that", () -> x.feed(0x0A000000, 0, 0, 0, 0), 38);
        Dues.due("byteAt(18) now", () -> x.byteAt(18), 10);
        Dues.due("byteAt(19) now", () -> x.byteAt(19), 0);
        Dues.due("trim(38)", () -> x.trim(38), 0);
        Dues.due("byteAt(0) of an empty tape", () -> x.byteAt(0), Dues.ARGUMENT);
    }

    private static void spoilFlipsBits() {
        BatchBytes x = new BatchBytes();
        x.feed(0x80000000, 0, 0, 0, 1);
        Dues.due("spoil(0, 1)", () -> x.spoil(0, 1), 129);
        Dues.due("byteAt(0)", () -> x.byteAt(0), 129);
        Dues.due("spoil(0, 255)", () -> x.spoil(0, 255), 126);
        Dues.due("spoil(0, 0)", () -> x.spoil(0, 0), 126);
        Dues.due("spoil(19, 128)", () -> x.spoil(19, 128), 129);
        Dues.due("spoil(19, 256)", () -> x.spoil(19, 256), Dues.ARGUMENT);
        Dues.due("spoil(19, -1)", () -> x.spoil(19, -1), Dues.ARGUMENT);
        Dues.due("spoil(20, 1)", () -> x.spoil(20, 1), Dues.ARGUMENT);
        Dues.due("spoil(-1, 1)", () -> x.spoil(-1, 1), Dues.ARGUMENT);
        Dues.due("byteAt(19)", () -> x.byteAt(19), 129);
        Dues.due("byteAt(18)", () -> x.byteAt(18), 0);
    }

    private static void checkPutsTheChecksumRight() {
        BatchBytes x = new BatchBytes();
        for (int i = 0; i < 4; i++) {
            x.feed(-1, 0x31323334, 0x35363738, 0x39000000, i);
        }
        x.trim(20);
        Dues.due("check() of 60 bytes", () -> x.check(), BatchBytes.NONE);
        Dues.due("byteAt(17) untouched", () -> x.byteAt(17), 0);
        x.feed(1, 2, 3, 4, 5);
        x.trim(19);
        Bytes same = new Bytes();
        for (int i = 0; i < 61; i++) {
            same.add(x.byteAt(i));
        }
        int want = same.checksumFrom(21);
        Dues.due("check() of 61 bytes", () -> x.check(), want);
        same.rightened();
        for (int i = 0; i < 61; i++) {
            int place = i;
            Dues.due("byteAt(" + i + ") after check()", () -> x.byteAt(place), same.get(i));
        }
        Dues.due("check() again", () -> x.check(), want);
    }

    /** The checksum's known value: 0xE3069283 for the nine letters 1 to 9. */
    private static void checkOfAFullTape() {
        Bytes letters = new Bytes().add('1', '2', '3', '4', '5', '6', '7', '8', '9');
        Dues.due("the checksum of 123456789", () -> letters.checksumFrom(0), 0xE3069283);
        BatchBytes x = new BatchBytes();
        Bytes same = new Bytes();
        for (int i = 0; i < 100; i++) {
            x.feed(i * 0x9E3779B9, i, ~i, i << 24, i * i);
            same.number(i * 0x9E3779B9, 4).number(i, 4).number(~i, 4).number(i << 24, 4).number(i * i, 4);
        }
        Dues.due("check() of 2000 bytes", () -> x.check(), same.checksumFrom(21));
    }
}
