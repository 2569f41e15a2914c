/** Values on both sides of the document's boundaries that several promises share. */
final class Edges {
    static final int LEAST = Integer.MIN_VALUE;
    static final int GREATEST = Integer.MAX_VALUE;

    /** The ends of what can be told, once all 32 classes are there. */
    static final int[] TOLD_TYPES = {0, 1, 32, 64, 65, 96};
    /** What lies just outside them: no class is missing for these. */
    static final int[] OTHER_TYPES = {LEAST, -2, 33, 34, 63, 97, 98, 99, 100, GREATEST};

    private Edges() {
    }

    /** Numbers that are none of 0 .. count - 1, and not NONE either. */
    static int[] outside(int count) {
        return new int[] {LEAST, -2, count, count + 1, GREATEST};
    }
}
