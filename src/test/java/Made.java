import java.util.ArrayList;
import java.util.List;

/** Objects in states that would take many calls, made with few: an object is used for at most 512 calls. */
final class Made {
    /** Makes the same object each time, so that more can be asked of its state than one object's calls allow. */
    interface Maker {
        BatchBytes make();
    }

    private static final int MOST_LOOKS = 400;

    private Made() {
    }

    /** Fifty records with the longest keys and values: 317 bytes each, 15850 in all. */
    static void fifty(BatchBytes x) {
        x.record(50, 0, 8, 0, 300, 0);
    }

    /** An object with this many bytes on its tape, and an empty draft. */
    static BatchBytes withBytes(int n) {
        BatchBytes x = new BatchBytes();
        fifty(x);
        int size = x.seal(-1, -1, -1, 0);
        // From 15911 on 24 twenties lead to the most; a bound, so that a wrong class cannot hold the test up.
        for (int i = 0; i < 24 && size < n; i++) {
            // Where twenty more would not fit, the last of them come where trimmed ones were.
            size = size + 20 > 16384 ? x.trim(size + 20 - 16384) : size;
            size = x.feed(0x01020304, 0x05060708, 0x090A0B0C, 0x0D0E0F10, 0x11121314);
        }
        x.trim(size - n);
        return x;
    }

    /** An object with this many least records in its draft, 7 or 8 bytes each. */
    static BatchBytes withRecords(int n) {
        BatchBytes x = new BatchBytes();
        for (int rest = n; rest > 0; rest -= 100) {
            x.record(Math.min(rest, 100), 0, -1, 0, -1, 0);
        }
        return x;
    }

    /** An object whose draft has 15850 bytes of fifty records, and a record more with a key of none. */
    static BatchBytes withDraftBytes(int valueBytes) {
        BatchBytes x = new BatchBytes();
        fifty(x);
        x.record(1, 0, -1, 0, valueBytes, 0);
        return x;
    }

    static BatchBytes withTape(Bytes tape) {
        BatchBytes x = new BatchBytes();
        tape.feedTo(x);
        return x;
    }

    /** Writes a number on the tape by spoil(). */
    static void set(BatchBytes x, int place, long v, int bytes) {
        for (int k = 0; k < bytes; k++) {
            int b = (int) (v >> (8 * (bytes - 1 - k))) & 255;
            x.spoil(place + k, x.byteAt(place + k) ^ b);
        }
    }

    /** The tape's bytes, of as many objects as it takes. */
    static Bytes tapeOf(Maker maker) {
        Bytes tape = new Bytes();
        int size = maker.make().size();
        while (tape.size() < size) {
            BatchBytes x = maker.make();
            int until = Math.min(size, tape.size() + MOST_LOOKS);
            for (int i = tape.size(); i < until; i++) {
                tape.add(x.byteAt(i));
            }
        }
        return tape;
    }

    /** All that can be seen of an object: its tape, what is told of it, its draft, and what that becomes. */
    static List<String> stateOf(Maker maker) {
        List<String> seen = new ArrayList<>();
        BatchBytes x = maker.make();
        seen.add("size() " + x.size());
        seen.add("fault " + x.fault(0) + " at " + x.fault(1));
        int[] ks = {0, 1, 2, 49, 999};
        for (int i = 0; i <= 5; i++) {
            int what = i;
            seen.add("head(" + what + ") " + Dues.told(() -> x.head(what)));
            for (int k : ks) {
                seen.add("told(" + k + ", " + what + ") " + Dues.told(() -> x.told(k, what)));
            }
        }
        seen.add("the tape " + tapeOf(maker));
        seen.add("clear() " + maker.make().clear());
        seen.add("the draft sealed " + tapeOf(() -> sealedAlone(maker.make())));
        return seen;
    }

    private static BatchBytes sealedAlone(BatchBytes x) {
        x.trim(x.size());
        x.seal(1, 2, 3, 4);
        return x;
    }
}
