import java.util.Random;

/** Long runs of calls, drawn from fixed seeds, on BatchBytes and on the model at once: all promises. */
public final class ModelTest {
    private static final int[] FIELDS = {0, 7, 8, 11, 12, 16, 17, 20, 21, 23, 26, 27, 28, 34, 35, 36, 42, 43, 44, 50, 51, 52, 53, 56, 57, 59, 60};
    private static final int[] ODD = {Integer.MIN_VALUE, -2, -1, 0, 1, 2, 5, 6, 7, 8, 9, 60, 61, 100, 101, 255, 256, 300, 301, 1000, 1000000, 1000001, Integer.MAX_VALUE};

    /** An object is used for at most 512 calls; the rest is for what feeds a written batch to it. */
    private static final int MOST_CALLS = 480;

    private final Random random;
    private final String name;
    private final BatchBytes x = new BatchBytes();
    private final Model model = new Model();
    private int calls = 0;

    private ModelTest(String name, long seed) {
        this.random = new Random(seed);
        this.name = name + " " + seed + ": ";
    }

    public static void main(String[] args) {
        for (int seed = 0; seed < 3000; seed++) {
            new ModelTest("small run", seed).run(120, 3, 12);
        }
        for (int seed = 0; seed < 100; seed++) {
            new ModelTest("big run", seed).run(200, 100, 300);
        }
        for (int seed = 0; seed < 6000; seed++) {
            new ModelTest("written run", seed).written();
        }
        Dues.end();
    }

    private int below(int n) {
        return random.nextInt(n);
    }

    private int odd() {
        return ODD[below(ODD.length)];
    }

    private void same(String call, Dues.Call got, Dues.Call want) {
        if (calls < MOST_CALLS) {
            calls++;
            Dues.due(name + call, got, Dues.told(want));
        }
    }

    private void run(int steps, int mostRecords, int mostValue) {
        for (int i = 0; i < steps; i++) {
            switch (below(16)) {
                case 0: feed(); break;
                case 1: trim(below(3) == 0 ? odd() : below(30)); break;
                case 2: trim(model.size()); break;
                case 3: case 4: spoil(); break;
                case 5: case 6: check(); break;
                case 7: case 8: record(1 + below(mostRecords), below(10) - 1, below(mostValue + 2) - 1, below(3) * below(9000)); break;
                case 9: record(odd(), odd(), odd(), odd()); break;
                case 10: if (below(4) == 0) { same("clear", () -> x.clear(), () -> model.clear()); } break;
                case 11: case 12: seal(); break;
                case 13: soundBatch(mostRecords, mostValue); break;
                default: look(6);
            }
        }
        look(100);
    }

    private void feed() {
        int[] w = new int[5];
        for (int i = 0; i < 5; i++) {
            w[i] = below(2) * random.nextInt();
        }
        same("feed", () -> x.feed(w[0], w[1], w[2], w[3], w[4]), () -> model.feed(w[0], w[1], w[2], w[3], w[4]));
    }

    private void trim(int n) {
        same("trim(" + n + ")", () -> x.trim(n), () -> model.trim(n));
    }

    private void spoil() {
        int i = below(2) == 0 ? FIELDS[below(FIELDS.length)] : below(model.size() + 2) - 1;
        int bits = below(10) == 0 ? odd() : below(2) == 0 ? 1 << below(8) : below(256);
        same("spoil(" + i + ", " + bits + ")", () -> x.spoil(i, bits), () -> model.spoil(i, bits));
    }

    private void check() {
        same("check", () -> x.check(), () -> model.check());
    }

    private void record(int n, int keyBytes, int valueBytes, int later) {
        long key = random.nextLong() >> below(64);
        long value = random.nextLong() >> below(64);
        String call = "record(" + n + ", " + key + ", " + keyBytes + ", " + value + ", " + valueBytes + ", " + later + ")";
        same(call, () -> x.record(n, key, keyBytes, value, valueBytes, later),
            () -> model.record(n, key, keyBytes, value, valueBytes, later));
    }

    private void seal() {
        boolean none = below(2) == 0;
        long producer = none ? -1 : random.nextLong() >> below(64);
        int epoch = none ? -1 : random.nextInt() >> below(32);
        int sequence = none ? -1 : random.nextInt() >> below(32);
        long time = below(10) == 0 ? random.nextLong() >> below(64) : below(3) * (long) below(1 << 30);
        String call = "seal(" + producer + ", " + epoch + ", " + sequence + ", " + time + ")";
        same(call, () -> x.seal(producer, epoch, sequence, time), () -> model.seal(producer, epoch, sequence, time));
    }

    /** Alone on the tape, so that it has no fault, or just the one that then comes into it. */
    private void soundBatch(int mostRecords, int mostValue) {
        trim(model.size());
        record(1 + below(mostRecords), below(10) - 1, below(mostValue + 2) - 1, below(2) * below(200));
        seal();
        if (below(2) == 0) {
            spoil();
            check();
        }
        look(20);
    }

    private void look(int n) {
        same("size", () -> x.size(), () -> model.size());
        same("fault(0)", () -> x.fault(0), () -> model.fault(0));
        same("fault(1)", () -> x.fault(1), () -> model.fault(1));
        for (int j = 0; j < n; j++) {
            int what = below(8) - 1;
            int k = below(4) == 0 ? below(1002) - 1 : below(8) - 1;
            int i = below(model.size() + 2) - 1;
            same("byteAt(" + i + ")", () -> x.byteAt(i), () -> model.byteAt(i));
            same("told(" + k + ", " + what + ")", () -> x.told(k, what), () -> model.told(k, what));
            if (j % 4 == 0) {
                same("head(" + what + ")", () -> x.head(what), () -> model.head(what));
                same("fault(" + what + ")", () -> x.fault(what), () -> model.fault(what));
            }
        }
    }

    /** A batch written by the test, with now and then a wrong thing in it, then fed to both. */
    private void written() {
        int count = 1 + below(4);
        long firstTime = below(3) == 0 ? (1L << 50) - below(3) : below(500);
        long greatest = 0;
        Bytes records = new Bytes();
        for (int i = 0; i < count; i++) {
            long difference = below(200) - 100;
            greatest = Math.max(greatest, firstTime + difference);
            records.add(recordMaybeWrong(difference, i));
        }
        if (below(10) == 0) {
            records.add(below(256));
        }
        Bytes batch = Bytes.batch(count, firstTime, greatest, records);
        if (below(5) == 0) {
            int place = below(batch.size());
            batch.set(place, below(256));
            batch.rightened();
        }
        feedBoth(batch);
        look(30);
    }

    private Bytes recordMaybeWrong(long difference, int number) {
        Bytes body = new Bytes().add(rarely() ? below(3) : 0);
        varint(body, rarely() ? random.nextLong() >> below(64) : difference);
        varint(body, rarely() ? below(5) - 1 : number);
        part(body);
        part(body);
        body.add(rarely() ? below(3) : 0);
        Bytes whole = new Bytes();
        varint(whole, rarely() ? body.size() + below(5) - 2 : body.size());
        return whole.add(body);
    }

    private void part(Bytes body) {
        int length = below(3) == 0 ? -1 : below(20);
        varint(body, rarely() ? random.nextLong() >> below(64) : length);
        for (int j = 0; j < length; j++) {
            body.add(below(256));
        }
    }

    private void varint(Bytes to, long v) {
        to.varint(v);
        if (below(60) == 0) {
            to.set(to.size() - 1, to.get(to.size() - 1) | 128);
            to.add(below(3));
        }
    }

    private boolean rarely() {
        return below(40) == 0;
    }

    private void feedBoth(Bytes batch) {
        batch.feedTo(x);
        for (int i = 0; i < batch.size(); i += 20) {
            model.feed(0, 0, 0, 0, 0);
        }
        model.trim(model.size() - batch.size());
        for (int i = 0; i < batch.size(); i++) {
            model.spoil(i, batch.get(i));
        }
    }
}
