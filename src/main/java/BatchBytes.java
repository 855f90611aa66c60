import java.util.ArrayList;
import java.util.Arrays;

/** Batches of records as bytes; ../shared/DOC.md has the promises that the comments name. */
public final class BatchBytes {
    public static final int NONE = -1;

    private static final int MOST_TAPE_BYTES = 16384;
    private static final int MOST_DRAFT_BYTES = 16000;
    private static final int MOST_RECORDS = 1000;
    private static final long MOST_TIME = 1L << 50;
    private static final long MOST_SEAL_TIME = 1L << 49;
    private static final long MOST_PRODUCER = 1L << 50;

    private static final int BASE = 0;
    private static final int LENGTH = 8;
    private static final int BEHIND_LENGTH = 12;
    private static final int TERM = 12;
    private static final int MARK = 16;
    private static final int CHECKSUM = 17;
    private static final int BEHIND_CHECKSUM = 21;
    private static final int FLAGS = 21;
    private static final int LAST = 23;
    private static final int FIRST_TIME = 27;
    private static final int GREATEST_TIME = 35;
    private static final int PRODUCER = 43;
    private static final int EPOCH = 51;
    private static final int SEQUENCE = 53;
    private static final int COUNT = 57;
    private static final int HEAD_BYTES = 61;

    private static final int MARK_OF_A_BATCH = 2;

    private static final int FAULT_LENGTH = 1;
    private static final int FAULT_FIELD = 2;
    private static final int FAULT_CHECKSUM = 3;
    private static final int FAULT_RECORD = 4;
    private static final int FAULT_TIME = 5;

    /** What four of the checksum's steps make of 0 .. 15: a byte then takes two looks, not eight steps. */
    private static final int[] FOUR_STEPS = {
        0x00000000, 0x105EC76F, 0x20BD8EDE, 0x30E349B1, 0x417B1DBC, 0x5125DAD3, 0x61C69362, 0x7198540D,
        0x82F63B78, 0x92A8FC17, 0xA24BB5A6, 0xB21572C9, 0xC38D26C4, 0xD3D3E1AB, 0xE330A81A, 0xF36E6F75
    };

    private final Tape tape;
    private final Draft draft;
    private final Reader reader;
    private int faultKind;
    private int faultPlace;

    public BatchBytes() {
        tape = new Tape();
        draft = new Draft();
        reader = new Reader(tape);
        faultKind = 0;
        faultPlace = NONE;
    }

    public int feed(int a, int b, int c, int d, int e) throws IllegalStateException {
        if (tape.used + 20 > MOST_TAPE_BYTES) {
            throw new IllegalStateException("the tape would have more than 16384 bytes");
        }
        tape.makeRoom(20);
        tape.putNumber(a, 4);
        tape.putNumber(b, 4);
        tape.putNumber(c, 4);
        tape.putNumber(d, 4);
        tape.putNumber(e, 4);
        return tape.used;
    }

    public int trim(int n) throws IllegalArgumentException {
        if (n < 0 || n > tape.used) {
            throw new IllegalArgumentException("the tape has not so many bytes");
        }
        tape.cut(n);
        return tape.used;
    }

    public int spoil(int i, int x) throws IllegalArgumentException {
        if (!tape.has(i)) {
            throw new IllegalArgumentException("the tape has no such byte");
        }
        if (x < 0 || x > 255) {
            throw new IllegalArgumentException("x is not 0 .. 255");
        }
        tape.put(i, tape.get(i) ^ x);
        return tape.get(i);
    }

    public int check() {
        if (tape.used < HEAD_BYTES) {
            return NONE;
        }
        return tape.rightChecksum(0);
    }

    public int record(int n, long key, int keyBytes, long value, int valueBytes, int later)
            throws IllegalArgumentException, IllegalStateException {
        if (n < 1 || n > 100) {
            throw new IllegalArgumentException("n is not 1 .. 100");
        }
        if (keyBytes < -1 || keyBytes > 8) {
            throw new IllegalArgumentException("keyBytes is not -1 .. 8");
        }
        if (valueBytes < -1 || valueBytes > 300) {
            throw new IllegalArgumentException("valueBytes is not -1 .. 300");
        }
        if (later < 0 || later > 1000000) {
            throw new IllegalArgumentException("later is not 0 .. 1000000");
        }
        Group group = new Group(n, key, keyBytes, value, valueBytes, later);
        int more = group.bytesFrom(draft.count);
        if (draft.count + n > MOST_RECORDS) {
            throw new IllegalStateException("the draft would have more than 1000 records");
        }
        if (draft.bytes + more > MOST_DRAFT_BYTES) {
            throw new IllegalStateException("the draft would have more than 16000 bytes");
        }
        draft.add(group, more);
        return draft.count;
    }

    public int clear() {
        int had = draft.count;
        draft.drop();
        return had;
    }

    public int seal(long producer, int epoch, int sequence, long time)
            throws IllegalArgumentException, IllegalStateException {
        if (time < 0 || time > MOST_SEAL_TIME) {
            throw new IllegalArgumentException("time is not 0 .. 2^49");
        }
        int more = HEAD_BYTES + draft.bytes;
        if (tape.used + more > MOST_TAPE_BYTES) {
            throw new IllegalStateException("the tape would have more than 16384 bytes");
        }
        int start = tape.used;
        tape.makeRoom(more);
        writeHead(producer, epoch, sequence, time);
        draft.writeTo(tape);
        tape.rightChecksum(start);
        draft.drop();
        return tape.used;
    }

    public int size() {
        return tape.used;
    }

    public int byteAt(int i) throws IllegalArgumentException {
        if (!tape.has(i)) {
            throw new IllegalArgumentException("the tape has no such byte");
        }
        return tape.get(i);
    }

    public int fault(int what) throws IllegalArgumentException {
        if (what < 0 || what > 1) {
            throw new IllegalArgumentException("what is not 0 or 1");
        }
        judge();
        return what == 0 ? faultKind : faultPlace;
    }

    public long head(int what) throws IllegalArgumentException {
        judge();
        if (faultKind != 0) {
            throw new IllegalArgumentException("the tape has a fault");
        }
        switch (what) {
            case 0: return tape.signed(FIRST_TIME, 8);
            case 1: return tape.signed(GREATEST_TIME, 8);
            case 2: return tape.signed(PRODUCER, 8);
            case 3: return tape.signed(EPOCH, 2);
            case 4: return tape.signed(SEQUENCE, 4);
            case 5: return tape.signed(COUNT, 4);
            default: throw new IllegalArgumentException("what is not 0 .. 5");
        }
    }

    public long told(int k, int what) throws IllegalArgumentException {
        judge();
        if (faultKind != 0) {
            throw new IllegalArgumentException("the tape has a fault");
        }
        if (k < 0 || k >= tape.signed(COUNT, 4)) {
            throw new IllegalArgumentException("the tape has no such record");
        }
        readUpTo(k);
        switch (what) {
            case 0: return reader.start;
            case 1: return reader.time;
            case 2: return reader.key.length;
            case 3: return firstEight(reader.key);
            case 4: return reader.value.length;
            case 5: return firstEight(reader.value);
            default: throw new IllegalArgumentException("what is not 0 .. 5");
        }
    }

    private void writeHead(long producer, int epoch, int sequence, long time) {
        tape.putNumber(0, 8);
        tape.putNumber(HEAD_BYTES - BEHIND_LENGTH + draft.bytes, 4);
        tape.putNumber(0, 4);
        tape.putNumber(MARK_OF_A_BATCH, 1);
        // The checksum's place; it is put right when the bytes behind it stand.
        tape.putNumber(0, 4);
        tape.putNumber(0, 2);
        tape.putNumber(draft.count - 1, 4);
        tape.putNumber(time, 8);
        tape.putNumber(draft.count == 0 ? 0 : time + draft.latest, 8);
        tape.putNumber(producer, 8);
        tape.putNumber(epoch, 2);
        tape.putNumber(sequence, 4);
        tape.putNumber(draft.count, 4);
    }

    /** Finds the tape's fault, once for each state of the tape: a checksum over it all is dear. */
    private void judge() {
        if (!tape.changed) {
            return;
        }
        tape.changed = false;
        if (tape.used < HEAD_BYTES || tape.signed(LENGTH, 4) != tape.used - BEHIND_LENGTH) {
            keepFault(FAULT_LENGTH, LENGTH);
            return;
        }
        int field = wrongField();
        if (field != NONE) {
            keepFault(FAULT_FIELD, field);
            return;
        }
        if (tape.signed(CHECKSUM, 4) != tape.checksum(BEHIND_CHECKSUM)) {
            keepFault(FAULT_CHECKSUM, CHECKSUM);
            return;
        }
        judgeRecords();
    }

    private void judgeRecords() {
        int count = (int) tape.signed(COUNT, 4);
        long firstTime = tape.signed(FIRST_TIME, 8);
        long greatest = 0;
        reader.begin();
        for (int i = 0; i < count; i++) {
            if (!reader.readRecord(i, firstTime)) {
                keepFault(FAULT_RECORD, reader.start);
                return;
            }
            greatest = Math.max(greatest, reader.time);
        }
        if (reader.place < tape.used) {
            keepFault(FAULT_RECORD, reader.place);
        } else if (tape.signed(GREATEST_TIME, 8) != greatest) {
            keepFault(FAULT_TIME, GREATEST_TIME);
        } else {
            keepFault(0, NONE);
        }
    }

    private void keepFault(int kind, int place) {
        faultKind = kind;
        faultPlace = place;
    }

    /** The place of the head's first wrong field, NONE if all are right; the head must be there. */
    private int wrongField() {
        if (tape.signed(BASE, 8) != 0) {
            return BASE;
        }
        if (tape.signed(TERM, 4) != 0) {
            return TERM;
        }
        if (tape.signed(MARK, 1) != MARK_OF_A_BATCH) {
            return MARK;
        }
        if (tape.signed(FLAGS, 2) != 0) {
            return FLAGS;
        }
        // In 64 bits, so that the lowest COUNT less 1 does not wrap round to the highest LAST.
        if (tape.signed(LAST, 4) != tape.signed(COUNT, 4) - 1) {
            return LAST;
        }
        if (!isTime(tape.signed(FIRST_TIME, 8))) {
            return FIRST_TIME;
        }
        if (!isTime(tape.signed(GREATEST_TIME, 8))) {
            return GREATEST_TIME;
        }
        return wrongFieldFromProducer();
    }

    private int wrongFieldFromProducer() {
        long producer = tape.signed(PRODUCER, 8);
        if (producer < -1 || producer > MOST_PRODUCER) {
            return PRODUCER;
        }
        if (!fitsProducer(tape.signed(EPOCH, 2), producer)) {
            return EPOCH;
        }
        if (!fitsProducer(tape.signed(SEQUENCE, 4), producer)) {
            return SEQUENCE;
        }
        long count = tape.signed(COUNT, 4);
        return count < 1 || count > MOST_RECORDS ? COUNT : NONE;
    }

    private static boolean isTime(long time) {
        return time >= 0 && time <= MOST_TIME;
    }

    private static boolean fitsProducer(long number, long producer) {
        return producer == -1 ? number == -1 : number >= 0;
    }

    /** Lets the reader hold record k; the tape must have no fault and more than k records. */
    private void readUpTo(int k) {
        long firstTime = tape.signed(FIRST_TIME, 8);
        reader.begin();
        for (int i = 0; i <= k; i++) {
            reader.readRecord(i, firstTime);
        }
    }

    private long firstEight(Part part) {
        return tape.unsigned(part.place, Math.min(8, Math.max(part.length, 0)));
    }

    /** Numbers near 0, below it too, become small numbers that are not below 0. */
    private static long folded(long v) {
        return (v << 1) ^ (v >> 63);
    }

    private static long unfolded(long z) {
        return (z >>> 1) ^ -(z & 1);
    }

    private static int varintBytes(long v) {
        long rest = folded(v) >>> 7;
        int bytes = 1;
        for (int k = 1; k < 10 && rest != 0; k++) {
            rest = rest >>> 7;
            bytes++;
        }
        return bytes;
    }

    /** The tape's bytes; its row grows with them, so that an object with few bytes stays small. */
    private static final class Tape {
        byte[] row;
        int used;
        /** Whether a byte came, went or became another one since the fault was last looked for. */
        boolean changed;

        Tape() {
            row = new byte[64];
            used = 0;
            changed = true;
        }

        boolean has(int i) {
            return i >= 0 && i < used;
        }

        int get(int i) {
            return i >= 0 && i < used ? row[i] & 255 : 0;
        }

        void put(int i, int b) {
            if (has(i)) {
                row[i] = (byte) b;
                changed = true;
            }
        }

        void makeRoom(int more) {
            if (used + more > row.length) {
                int twice = Math.min(2 * row.length, MOST_TAPE_BYTES);
                row = Arrays.copyOf(row, Math.max(used + more, twice));
            }
        }

        void add(int b) {
            makeRoom(1);
            row[used] = (byte) b;
            used++;
            changed = true;
        }

        void cut(int n) {
            used -= n;
            changed = true;
        }

        void putNumber(long v, int bytes) {
            for (int k = bytes - 1; k >= 0; k--) {
                add((int) (v >> (8 * k)));
            }
        }

        void putVarint(long v) {
            long z = folded(v);
            for (int k = 1; k < 10 && (z >>> 7) != 0; k++) {
                add((int) (z & 127) | 128);
                z = z >>> 7;
            }
            add((int) z);
        }

        long unsigned(int place, int bytes) {
            long v = 0;
            for (int k = 0; k < bytes; k++) {
                v = (v << 8) | get(place + k);
            }
            return v;
        }

        long signed(int place, int bytes) {
            int spare = 64 - 8 * bytes;
            return unsigned(place, bytes) << spare >> spare;
        }

        /** The checksum of the bytes from a place, not below 0, to the tape's end. */
        int checksum(int from) {
            int c = -1;
            for (int i = from; i < used; i++) {
                c = c ^ (row[i] & 255);
                c = (c >>> 4) ^ FOUR_STEPS[c & 15];
                c = (c >>> 4) ^ FOUR_STEPS[c & 15];
            }
            return ~c;
        }

        /** Puts the checksum of the batch right that begins at start and ends with the tape. */
        int rightChecksum(int start) {
            int c = checksum(start + BEHIND_CHECKSUM);
            for (int k = 0; k < 4; k++) {
                put(start + CHECKSUM + k, c >> (24 - 8 * k));
            }
            return c;
        }
    }

    /** The records of one call of record(), held as that call told them. */
    private static final class Group {
        final int n;
        final long key;
        final int keyBytes;
        final long value;
        final int valueBytes;
        final int later;

        Group(int n, long key, int keyBytes, long value, int valueBytes, int later) {
            this.n = n;
            this.key = key;
            this.keyBytes = keyBytes;
            this.value = value;
            this.valueBytes = valueBytes;
            this.later = later;
        }

        /** How many bytes the records have if the first of them has this number in its batch. */
        int bytesFrom(int number) {
            int bytes = 0;
            for (int i = 0; i < n; i++) {
                int behind = bytesBehindLength(i, number + i);
                bytes += varintBytes(behind) + behind;
            }
            return bytes;
        }

        int bytesBehindLength(int i, int number) {
            return 2 + varintBytes(later + i) + varintBytes(number) + partBytes(keyBytes) + partBytes(valueBytes);
        }

        static int partBytes(int length) {
            return varintBytes(length) + Math.max(length, 0);
        }

        void writeOne(Tape tape, int i, int number) {
            tape.putVarint(bytesBehindLength(i, number));
            tape.add(0);
            tape.putVarint(later + i);
            tape.putVarint(number);
            tape.putVarint(keyBytes);
            tape.putNumber(key + i, keyBytes);
            tape.putVarint(valueBytes);
            for (int j = 0; j < valueBytes; j++) {
                tape.add((int) ((value + i) >> (8 * (j & 7))));
            }
            tape.add(0);
        }
    }

    private static final class Draft {
        final ArrayList<Group> groups;
        int count;
        int bytes;
        /** The greatest difference to FIRST TIME. */
        int latest;

        Draft() {
            groups = new ArrayList<Group>();
            count = 0;
            bytes = 0;
            latest = 0;
        }

        void add(Group group, int more) {
            groups.add(group);
            count += group.n;
            bytes += more;
            latest = Math.max(latest, group.later + group.n - 1);
        }

        void drop() {
            groups.clear();
            count = 0;
            bytes = 0;
            latest = 0;
        }

        void writeTo(Tape tape) {
            int number = 0;
            for (int g = 0; g < groups.size(); g++) {
                Group group = groups.get(g);
                for (int i = 0; i < group.n; i++) {
                    group.writeOne(tape, i, number);
                    number++;
                }
            }
        }
    }

    /** A key or a value on the tape: how many bytes (NONE: there is none), and where they begin. */
    private static final class Part {
        int length;
        int place;

        Part() {
            length = NONE;
            place = 0;
        }
    }

    /** Reads a tape's records one behind the other; holds the one that it read last. */
    private static final class Reader {
        final Tape tape;
        final Part key;
        final Part value;
        int place;
        int end;
        boolean sound;
        int start;
        long time;

        Reader(Tape tape) {
            this.tape = tape;
            key = new Part();
            value = new Part();
            place = HEAD_BYTES;
            end = 0;
            sound = true;
            start = HEAD_BYTES;
            time = 0;
        }

        void begin() {
            place = HEAD_BYTES;
        }

        /** Whether the record at the reader's place is as the document says; only then it may go on. */
        boolean readRecord(int number, long firstTime) {
            start = place;
            end = tape.used;
            sound = true;
            long length = readVarint();
            expect(length >= 0 && length <= end - place);
            if (!sound) {
                return false;
            }
            end = place + (int) length;
            expect(readByte() == 0);
            long difference = readVarint();
            // Both bounds are far from the ends of 64 bits, where the sum itself could wrap.
            expect(difference >= -firstTime && difference <= MOST_TIME - firstTime);
            time = firstTime + difference;
            expect(readVarint() == number);
            readPart(key);
            readPart(value);
            expect(readByte() == 0);
            expect(place == end);
            return sound;
        }

        void expect(boolean holds) {
            sound = sound && holds;
        }

        void readPart(Part part) {
            long length = readVarint();
            expect(length >= NONE && length <= end - place);
            part.length = sound ? (int) length : NONE;
            part.place = place;
            place += Math.max(part.length, 0);
        }

        long readVarint() {
            long z = 0;
            for (int k = 0; k < 10; k++) {
                int b = readByte();
                z = z | ((long) (b & 127) << (7 * k));
                if (b < 128) {
                    // A last piece of 0 was not needed, and of the tenth only one bit is within 64.
                    expect((k == 0 || b != 0) && (k < 9 || b == 1));
                    return unfolded(z);
                }
            }
            sound = false;
            return 0;
        }

        int readByte() {
            if (place >= end) {
                sound = false;
                return 0;
            }
            int b = tape.get(place);
            place++;
            return b;
        }
    }
}
