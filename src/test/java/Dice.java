/** Numbers that look thrown but are the same in every run, so that a fault can be seen again. */
final class Dice {
    private long state;

    Dice(long seed) {
        state = seed;
    }

    /** From 0 to sides - 1. */
    int roll(int sides) {
        state = state * 6364136223846793005L + 1442695040888963407L;
        return (int) ((state >>> 33) % sides);
    }

    char pick(String signs) {
        return signs.charAt(roll(signs.length()));
    }
}
