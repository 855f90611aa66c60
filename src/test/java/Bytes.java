import java.math.BigInteger;
import java.util.Arrays;

/** A row of bytes that grows, with the document's numbers, varints and checksum in their plainest form. */
final class Bytes {
    private int[] row = new int[64];
    private int used = 0;

    int size() {
        return used;
    }

    int get(int i) {
        return row[i];
    }

    void set(int i, int b) {
        row[i] = b & 255;
    }

    void cut(int n) {
        used -= n;
    }

    Bytes add(int... bytes) {
        for (int b : bytes) {
            if (used == row.length) {
                row = Arrays.copyOf(row, 2 * used);
            }
            row[used] = b & 255;
            used++;
        }
        return this;
    }

    Bytes add(Bytes more) {
        for (int i = 0; i < more.used; i++) {
            add(more.row[i]);
        }
        return this;
    }

    Bytes number(long v, int bytes) {
        for (int k = bytes - 1; k >= 0; k--) {
            add((int) (v >> (8 * k)));
        }
        return this;
    }

    void setNumber(int place, long v, int bytes) {
        for (int k = 0; k < bytes; k++) {
            set(place + k, (int) (v >> (8 * (bytes - 1 - k))));
        }
    }

    /** With a sign. */
    BigInteger numberAt(int place, int bytes) {
        BigInteger v = BigInteger.valueOf(row[place] >= 128 ? row[place] - 256 : row[place]);
        for (int k = 1; k < bytes; k++) {
            v = v.shiftLeft(8).add(BigInteger.valueOf(row[place + k]));
        }
        return v;
    }

    Bytes varint(long v) {
        return varint(BigInteger.valueOf(v));
    }

    Bytes varint(BigInteger v) {
        BigInteger z = v.signum() >= 0 ? v.shiftLeft(1) : v.shiftLeft(1).negate().subtract(BigInteger.ONE);
        while (z.bitLength() > 7) {
            add(z.intValue() & 127 | 128);
            z = z.shiftRight(7);
        }
        return add(z.intValue());
    }

    /** How many bytes it has, then these, as a record has its key and its value; null: none. */
    Bytes part(int[] part) {
        return part == null ? varint(-1) : varint(part.length).add(part);
    }

    int checksumFrom(int from) {
        int c = 0xFFFFFFFF;
        for (int i = from; i < used; i++) {
            c = c ^ row[i];
            for (int step = 0; step < 8; step++) {
                boolean out = (c & 1) == 1;
                c = c >>> 1;
                if (out) {
                    c = c ^ 0x82F63B78;
                }
            }
        }
        return ~c;
    }

    /** A record as the document has it. */
    static Bytes record(long difference, int number, int[] key, int[] value) {
        return framed(new Bytes().add(0).varint(difference).varint(number).part(key).part(value).add(0));
    }

    static Bytes framed(Bytes behindLength) {
        return new Bytes().varint(behindLength.used).add(behindLength);
    }

    /** A batch with these records behind its head: no producer, FIRST TIME 0. */
    static Bytes batch(int count, long firstTime, long greatestTime, Bytes records) {
        Bytes b = new Bytes().number(0, 8).number(49 + records.used, 4).number(0, 4).add(2).number(0, 4);
        b.number(0, 2).number(count - 1, 4).number(firstTime, 8).number(greatestTime, 8);
        b.number(-1, 8).number(-1, 2).number(-1, 4).number(count, 4).add(records);
        return b.rightened();
    }

    /** With its checksum put right. */
    Bytes rightened() {
        setNumber(17, checksumFrom(21), 4);
        return this;
    }

    /** Feeds all these bytes to an object's tape: full twenties by feed(), what is too much goes by trim(). */
    void feedTo(BatchBytes x) {
        Bytes padded = new Bytes().add(this);
        while (padded.used % 20 != 0) {
            padded.add(0);
        }
        for (int i = 0; i < padded.used; i += 20) {
            x.feed(padded.word(i), padded.word(i + 4), padded.word(i + 8), padded.word(i + 12), padded.word(i + 16));
        }
        x.trim(padded.used - used);
    }

    /** All bytes as one text, to compare rows by. */
    @Override
    public String toString() {
        return Arrays.toString(Arrays.copyOf(row, used));
    }

    private int word(int i) {
        return numberAt(i, 4).intValue();
    }
}
