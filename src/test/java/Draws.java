/** The DRAWS, reckoned with room to spare. */
final class Draws {
    private Draws() {
    }

    /** X so many DRAWS behind a seed. */
    static int behind(int seed, int draws) {
        long drawn = seed;
        for (int i = 0; i < draws; i++) {
            drawn = (25173 * drawn + 13849) % 65536;
        }
        return (int) drawn;
    }

    /** A seed whose next DRAW is the one wanted. */
    static int seedFor(int draw) {
        for (int seed = 0; seed < 65536; seed++) {
            if (behind(seed, 1) % 10 == draw) {
                return seed;
            }
        }
        throw new IllegalArgumentException("no seed draws " + draw);
    }
}
