import java.math.BigInteger;
import java.util.ArrayList;
import java.util.List;

/**
 * The document's words in their plainest form, to compare BatchBytes with. It shares no code with
 * it, and it judges a record in another way: read loosely, written anew, compared byte by byte.
 */
final class Model {
    private static final BigInteger MOST_TIME = BigInteger.ONE.shiftLeft(50);

    private static final class Drafted {
        long later;
        int[] key;
        int[] value;
    }

    private static final class Read {
        int place;
        BigInteger time;
        int[] key;
        int[] value;
    }

    private static final class Unreadable extends Exception {
        private static final long serialVersionUID = 1L;
    }

    private final Bytes tape = new Bytes();
    private List<Drafted> draft = new ArrayList<>();
    private int readPlace;

    int feed(int a, int b, int c, int d, int e) {
        state(tape.size() + 20 <= 16384);
        tape.number(a, 4).number(b, 4).number(c, 4).number(d, 4).number(e, 4);
        return tape.size();
    }

    int trim(int n) {
        argument(n >= 0 && n <= tape.size());
        tape.cut(n);
        return tape.size();
    }

    int spoil(int i, int x) {
        argument(i >= 0 && i < tape.size() && x >= 0 && x <= 255);
        tape.set(i, tape.get(i) ^ x);
        return tape.get(i);
    }

    int check() {
        if (tape.size() < 61) {
            return -1;
        }
        tape.rightened();
        return tape.numberAt(17, 4).intValueExact();
    }

    int record(int n, long key, int keyBytes, long value, int valueBytes, int later) {
        argument(n >= 1 && n <= 100 && keyBytes >= -1 && keyBytes <= 8);
        argument(valueBytes >= -1 && valueBytes <= 300 && later >= 0 && later <= 1000000);
        List<Drafted> next = new ArrayList<>(draft);
        for (int i = 0; i < n; i++) {
            Drafted r = new Drafted();
            r.later = later + i;
            r.key = keyBytes < 0 ? null : new int[keyBytes];
            for (int j = 0; j < keyBytes; j++) {
                r.key[keyBytes - 1 - j] = (int) ((key + i) >>> (8 * j)) & 255;
            }
            r.value = valueBytes < 0 ? null : new int[valueBytes];
            for (int j = 0; j < valueBytes; j++) {
                r.value[j] = (int) ((value + i) >>> (8 * (j % 8))) & 255;
            }
            next.add(r);
        }
        state(next.size() <= 1000 && bytesOf(next).size() <= 16000);
        draft = next;
        return draft.size();
    }

    int clear() {
        int had = draft.size();
        draft = new ArrayList<>();
        return had;
    }

    int seal(long producer, int epoch, int sequence, long time) {
        argument(time >= 0 && time <= 1L << 49);
        long greatest = 0;
        for (Drafted r : draft) {
            greatest = Math.max(greatest, time + r.later);
        }
        Bytes batch = Bytes.batch(draft.size(), time, greatest, bytesOf(draft));
        batch.setNumber(43, producer, 8);
        batch.setNumber(51, epoch, 2);
        batch.setNumber(53, sequence, 4);
        state(tape.size() + batch.size() <= 16384);
        tape.add(batch.rightened());
        draft = new ArrayList<>();
        return tape.size();
    }

    int size() {
        return tape.size();
    }

    int byteAt(int i) {
        argument(i >= 0 && i < tape.size());
        return tape.get(i);
    }

    int fault(int what) {
        argument(what == 0 || what == 1);
        return judged()[what];
    }

    long head(int what) {
        argument(what >= 0 && what <= 5 && judged()[0] == 0);
        int[] places = {27, 35, 43, 51, 53, 57};
        int[] bytes = {8, 8, 8, 2, 4, 4};
        return tape.numberAt(places[what], bytes[what]).longValueExact();
    }

    long told(int k, int what) {
        List<Read> read = new ArrayList<>();
        argument(what >= 0 && what <= 5 && judge(read)[0] == 0 && k >= 0 && k < read.size());
        Read r = read.get(k);
        switch (what) {
            case 0: return r.place;
            case 1: return r.time.longValueExact();
            case 2: return r.key == null ? -1 : r.key.length;
            case 3: return firstEight(r.key);
            case 4: return r.value == null ? -1 : r.value.length;
            default: return firstEight(r.value);
        }
    }

    private static long firstEight(int[] bytes) {
        BigInteger v = BigInteger.ZERO;
        for (int i = 0; bytes != null && i < bytes.length && i < 8; i++) {
            v = v.multiply(BigInteger.valueOf(256)).add(BigInteger.valueOf(bytes[i]));
        }
        return v.longValue();
    }

    private static void argument(boolean holds) {
        if (!holds) {
            throw new IllegalArgumentException();
        }
    }

    private static void state(boolean holds) {
        if (!holds) {
            throw new IllegalStateException();
        }
    }

    private static Bytes bytesOf(List<Drafted> records) {
        Bytes b = new Bytes();
        for (int i = 0; i < records.size(); i++) {
            Drafted r = records.get(i);
            b.add(Bytes.record(r.later, i, r.key, r.value));
        }
        return b;
    }

    private int[] judged() {
        return judge(new ArrayList<>());
    }

    /** The kind and the place of the fault; the records that could be read come into the list. */
    private int[] judge(List<Read> read) {
        if (tape.size() < 61 || !is(8, 4, tape.size() - 12)) {
            return new int[] {1, 8};
        }
        int field = wrongField();
        if (field >= 0) {
            return new int[] {2, field};
        }
        if (!is(17, 4, tape.checksumFrom(21))) {
            return new int[] {3, 17};
        }
        BigInteger greatest = BigInteger.ZERO;
        int place = 61;
        for (int i = 0; i < tape.numberAt(57, 4).intValue(); i++) {
            Read r;
            try {
                r = read(place, i);
            } catch (Unreadable e) {
                return new int[] {4, place};
            }
            read.add(r);
            greatest = greatest.max(r.time);
            place = readPlace;
        }
        if (place != tape.size()) {
            return new int[] {4, place};
        }
        return greatest.equals(tape.numberAt(35, 8)) ? new int[] {0, -1} : new int[] {5, 35};
    }

    private boolean is(int place, int bytes, long v) {
        return tape.numberAt(place, bytes).equals(BigInteger.valueOf(v));
    }

    private boolean within(int place, int bytes, long low, BigInteger high) {
        BigInteger v = tape.numberAt(place, bytes);
        return v.compareTo(BigInteger.valueOf(low)) >= 0 && v.compareTo(high) <= 0;
    }

    private int wrongField() {
        boolean none = is(43, 8, -1);
        boolean[] right = {
            is(0, 8, 0), is(12, 4, 0), is(16, 1, 2), is(21, 2, 0),
            tape.numberAt(23, 4).equals(tape.numberAt(57, 4).subtract(BigInteger.ONE)),
            within(27, 8, 0, MOST_TIME), within(35, 8, 0, MOST_TIME), within(43, 8, -1, MOST_TIME),
            none ? is(51, 2, -1) : tape.numberAt(51, 2).signum() >= 0,
            none ? is(53, 4, -1) : tape.numberAt(53, 4).signum() >= 0,
            within(57, 4, 1, BigInteger.valueOf(1000))
        };
        int[] places = {0, 12, 16, 21, 23, 27, 35, 43, 51, 53, 57};
        for (int i = 0; i < right.length; i++) {
            if (!right[i]) {
                return places[i];
            }
        }
        return -1;
    }

    private Read read(int place, int number) throws Unreadable {
        readPlace = place;
        looseVarint();
        nextByte();
        BigInteger difference = looseVarint();
        looseVarint();
        Read r = new Read();
        r.place = place;
        r.key = loosePart();
        r.value = loosePart();
        r.time = tape.numberAt(27, 8).add(difference);
        if (r.time.signum() < 0 || r.time.compareTo(MOST_TIME) > 0) {
            throw new Unreadable();
        }
        Bytes anew = Bytes.record(difference.longValueExact(), number, r.key, r.value);
        for (int i = 0; i < anew.size(); i++) {
            if (place + i >= tape.size() || anew.get(i) != tape.get(place + i)) {
                throw new Unreadable();
            }
        }
        readPlace = place + anew.size();
        return r;
    }

    private int nextByte() throws Unreadable {
        if (readPlace >= tape.size()) {
            throw new Unreadable();
        }
        return tape.get(readPlace++);
    }

    private BigInteger looseVarint() throws Unreadable {
        BigInteger z = BigInteger.ZERO;
        int shift = 0;
        int b;
        do {
            b = nextByte();
            z = z.add(BigInteger.valueOf(b & 127).shiftLeft(shift));
            shift += 7;
        } while (b >= 128);
        return z.testBit(0) ? z.add(BigInteger.ONE).shiftRight(1).negate() : z.shiftRight(1);
    }

    private int[] loosePart() throws Unreadable {
        BigInteger length = looseVarint();
        if (length.equals(BigInteger.ONE.negate())) {
            return null;
        }
        if (length.signum() < 0 || length.compareTo(BigInteger.valueOf(tape.size() - readPlace)) > 0) {
            throw new Unreadable();
        }
        int[] part = new int[length.intValueExact()];
        for (int i = 0; i < part.length; i++) {
            part[i] = nextByte();
        }
        return part;
    }
}
