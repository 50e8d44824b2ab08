import java.util.Random;

/** Promises 15 and 16: quorums, and the least one within a set. */
public final class SetsTest {
    private static final int ALL = (1 << 27) - 1;

    public static void main(String[] args) {
        edges();
        againstCounting();
        Due.end();
    }

    private static void edges() {
        TripleHouse x = new TripleHouse();
        int least = Steps.set(0, 1, 3, 4, 9, 10, 12, 13);
        Due.no("quorum(0)", x.quorum(0));
        Due.yes("quorum of all", x.quorum(ALL));
        Due.yes("quorum of the least one", x.quorum(least));
        Due.no("one office fewer", x.quorum(least & ~1));
        Due.yes("further bits", x.quorum(least | 31 << 27));
        Due.no("further bits alone", x.quorum(31 << 27));
        Due.no("one whole region", x.quorum(0x1FF));
        Due.yes("two whole regions", x.quorum(0x3FFFF));
        Due.no("one office of each district", x.quorum(0b001001001001001001001001001));
        Due.yes("two offices of each district", x.quorum(0b011011011011011011011011011));
        Due.is("least(0)", x.least(0), 0);
        Due.is("least of all", x.least(ALL), least);
        Due.is("least(-1)", x.least(-1), least);
        Due.is("least of further bits", x.least(31 << 27), 0);
        Due.is("least of itself", x.least(least), least);
        Due.is("least of one fewer", x.least(least & ~(1 << 13)), 0);
        int last = Steps.set(13, 14, 16, 17, 22, 23, 25, 26);
        Due.is("least of the last", x.least(last), last);
        Due.is("with too few others", x.least(last | Steps.set(0, 1, 3, 9, 10)), last & ~Steps.set(16, 17) | Steps.set(9, 10));
    }

    private static void againstCounting() {
        TripleHouse x = new TripleHouse();
        Random random = new Random(27);
        int[] eights = allEights();
        Due.is("eights", eights.length, 2187);
        for (int k = 0; k < 250; k++) {
            // Full sets are quorums and thin ones are none: both thick and thin ones count.
            int set = random.nextInt() | (k % 3 == 0 ? 0 : random.nextInt());
            Due.is("quorum(" + set + ")", x.quorum(set) ? 1 : 0, isQuorum(set) ? 1 : 0);
            Due.is("least(" + set + ")", x.least(set), leastOf(eights, set));
        }
    }

    private static boolean isQuorum(int set) {
        int regions = 0;
        for (int r = 0; r < 3; r++) {
            int districts = 0;
            for (int d = 0; d < 3; d++) {
                districts += Integer.bitCount(set >> (9 * r + 3 * d) & 7) >= 2 ? 1 : 0;
            }
            regions += districts >= 2 ? 1 : 0;
        }
        return regions >= 2;
    }

    private static int leastOf(int[] eights, int set) {
        int least = 0;
        for (int eight : eights) {
            if ((eight & set) == eight && (least == 0 || eight < least)) {
                least = eight;
            }
        }
        return least;
    }

    /** All quorums of eight offices: 3 pairs of regions, each with 27 times 27 choices. */
    private static int[] allEights() {
        int[] pairs = {3, 5, 6};
        int[] inRegion = new int[27];
        int regionCount = 0;
        for (int districts : pairs) {
            for (int a : pairs) {
                for (int b : pairs) {
                    int low = districts == 6 ? 1 : 0;
                    int high = districts == 3 ? 1 : 2;
                    inRegion[regionCount++] = a << 3 * low | b << 3 * high;
                }
            }
        }
        int[] eights = new int[2187];
        int count = 0;
        for (int regions : pairs) {
            int low = regions == 6 ? 1 : 0;
            int high = regions == 3 ? 1 : 2;
            for (int a : inRegion) {
                for (int b : inRegion) {
                    eights[count++] = a << 9 * low | b << 9 * high;
                }
            }
        }
        return eights;
    }
}
