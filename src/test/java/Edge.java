/** What the Edges tests share: numbers at the ends of int, and HOUSES at the ends of what a town may be. */
final class Edge {
    static final int LEAST = Integer.MIN_VALUE;
    static final int GREATEST = Integer.MAX_VALUE;
    static final int NO = -1000000;

    /** Eight in a row from rim to rim. */
    static final String ROW = "house 0 0;house 1 0;house 2 0;house 3 0;house 4 0;house 5 0;house 6 0;house 7 0;";
    /** Two rows of four: as many pairs that TOUCH as eight HOUSES can have. */
    static final String BLOCK = "house 0 0;house 1 0;house 2 0;house 3 0;house 0 1;house 1 1;house 2 1;house 3 1;";
    /** Eight of which no two are near one another. */
    static final String WIDE = "house 0 0;house 3 0;house 6 0;house 0 3;house 3 3;house 6 3;house 0 6;house 3 6;";
    static final String ALL_ALIKE = "roof 0 0;roof 1 0;roof 2 0;roof 3 0;roof 4 0;roof 5 0;roof 6 0;roof 7 0;";

    private Edge() {
    }

    /** Numbers that are neither of 0, 1. */
    static int[] noFlags() {
        return new int[] {-1, 2, UnlikeRoofs.NONE, LEAST, GREATEST};
    }

    /** Numbers of no house, where there are that many; of no sort likewise. */
    static int[] noneOf(int many) {
        return new int[] {-1, many, UnlikeRoofs.NONE, LEAST, GREATEST};
    }
}
