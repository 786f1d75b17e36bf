import java.util.HashSet;
import java.util.Random;
import java.util.Set;

/** Makes rows of bytes of which it is known what copies are in them: three literals side by side never come twice. */
final class Weaver {
    private final byte[] row = new byte[20000];
    private int used;
    private final Random random;
    private final int lowest;
    private final int size;
    private final Set<Integer> threes = new HashSet<>();

    Weaver(long seed) {
        this(seed, 0, 256);
    }

    /** Literals are of so many bytes from the lowest one on. */
    Weaver(long seed, int lowest, int size) {
        random = new Random(seed);
        this.lowest = lowest;
        this.size = size;
    }

    /** Begins anew behind these bytes, which count as a dictionary's. */
    Weaver behind(byte[] content) {
        for (byte one : content) {
            put(one);
        }
        return this;
    }

    private int three(int end) {
        return (row[end - 2] & 255) << 16 | (row[end - 1] & 255) << 8 | row[end] & 255;
    }

    private void put(byte one) {
        row[used] = one;
        if (used >= 2) {
            threes.add(three(used));
        }
        used++;
    }

    Weaver literals(int n) {
        for (int i = 0; i < n; i++) {
            literalOtherThan(-1);
        }
        return this;
    }

    private void literalOtherThan(int other) {
        int tries = 0;
        do {
            row[used] = (byte) (lowest + random.nextInt(size));
            if (tries++ > 100000) {
                throw new IllegalStateException("no byte is left");
            }
        } while ((row[used] & 255) == other || used >= 2 && threes.contains(three(used)));
        put(row[used]);
    }

    /** Literals and a copy that can't begin any earlier: the last literal is not what stands before the copied bytes. */
    Weaver sequence(int literals, int distance, int n) {
        literals(Math.max(literals - 1, 0));
        if (literals > 0) {
            literalOtherThan(used - distance >= 0 ? row[used - distance] & 255 : -1);
        }
        return copy(distance, n);
    }

    /** The same, of the bytes that stand at a place: so far off they are then. */
    int sequenceFrom(int literals, int place, int n) {
        int distance = used + literals - place;
        sequence(literals, distance, n);
        return distance;
    }

    Weaver copy(int distance, int n) {
        for (int i = 0; i < n; i++) {
            put(row[used - distance]);
        }
        return this;
    }

    int length() {
        return used;
    }

    byte[] row() {
        return java.util.Arrays.copyOf(row, used);
    }

    /** What stands behind the first so many bytes. */
    byte[] rowFrom(int from) {
        return java.util.Arrays.copyOfRange(row, from, used);
    }
}
