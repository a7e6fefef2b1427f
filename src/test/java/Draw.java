/** A fixed sequence of numbers, so that each run of a test is the same. */
final class Draw {
    private long seed;

    Draw(int run) {
        seed = 88172645463325252L + 7919L * run;
    }

    int below(int bound) {
        seed = seed * 6364136223846793005L + 1442695040888963407L;
        return (int) ((seed >>> 33) % bound);
    }
}
