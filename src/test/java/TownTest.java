/** Promises 5 to 8 and 28: houses, sorts, roofs, wind, counts. */
public final class TownTest {
    public static void main(String[] args) {
        house();
        sort();
        roof();
        wind();
        count();
        Due.finish();
    }

    private static void house() {
        UnlikeRoofs x = Due.town("sort 5 2;sort 6 3;house 1 1;house 2 1;house 1 2;house 2 2;house 3 3;house 0 1;"
            + "house 1 0;bound 1 1;roof 2 0;");
        int[][] due = {{1, 1, -9, -9, 4}, {2, 1, 1, 1, 2}, {1, 2, 0, -9, 2}, {2, 2, -9, -9, 2}, {3, 3, -9, -9, 0},
            {0, 1, -9, -9, 1}, {1, 0, -9, -9, 1}};
        for (int h = 0; h < due.length; h++) {
            for (int what = 0; what < 5; what++) {
                Due.is("house " + h + " " + what, x.house(h, what), due[h][what]);
            }
        }
        Due.is("house -1", x.house(-1, 0), -1);
        Due.is("house 7", x.house(7, 0), -1);
        Due.is("house greatest", x.house(Integer.MAX_VALUE, 0), -1);
        Due.is("house what -1", x.house(0, -1), -1);
        Due.is("house what 5", x.house(0, 5), -1);
    }

    private static void sort() {
        UnlikeRoofs x = Due.town("sort 99 0;sort 1 9;");
        Due.is("sort 0 0", x.sort(0, 0), 99);
        Due.is("sort 0 1", x.sort(0, 1), 0);
        Due.is("sort 1 0", x.sort(1, 0), 1);
        Due.is("sort 1 1", x.sort(1, 1), 9);
        Due.is("sort 2", x.sort(2, 0), -1);
        Due.is("sort -1", x.sort(-1, 0), -1);
        Due.is("sort NONE", x.sort(-9, 0), -1);
        Due.is("sort what 2", x.sort(0, 2), -1);
        Due.is("sort what -1", x.sort(0, -1), -1);
    }

    private static void roof() {
        UnlikeRoofs x = Due.town("sort 5 2;sort 6 3;house 1 1;house 5 1;bound 1 1;");
        Due.is("a first roof", x.roof(0, 1), -9);
        Due.is("another roof", x.roof(0, 0), 1);
        Due.is("roof stands", x.house(0, 2), 0);
        Due.is("no roof", x.roof(0, -9), 0);
        Due.is("no roof twice", x.roof(0, -9), -9);
        Due.is("bound to another", x.roof(1, 0), -2);
        Due.is("bound to another changes nothing", x.house(1, 2), 1);
        Due.is("bound to it", x.roof(1, 1), 1);
        Due.is("bound, none", x.roof(1, -9), 1);
        Due.is("stays bound", x.house(1, 3), 1);
        Due.is("bound to another, none on it", x.roof(1, 0), -2);
        Due.is("bound to it again", x.roof(1, 1), -9);
        Due.is("no such house", x.roof(2, 0), -1);
        Due.is("house -1", x.roof(-1, 0), -1);
        Due.is("no such sort", x.roof(0, 2), -1);
        Due.is("sort -1", x.roof(0, -1), -1);
        Due.is("BAD is ahead of STATE", x.roof(1, 4), -1);
    }

    private static void wind() {
        UnlikeRoofs x = new UnlikeRoofs();
        Due.is("wind 4", x.wind(4), 0);
        Due.is("wind 5", x.wind(5), -1);
        Due.is("wind -1", x.wind(-1), -1);
        Due.is("wind NONE", x.wind(-9), -1);
        for (int w = 0; w <= 4; w++) {
            Due.is("wind " + w, x.wind(w), w == 0 ? 4 : w - 1);
        }
        UnlikeRoofs told = Due.town("wind down;");
        Due.is("wind as told", told.wind(1), 2);
    }

    private static void count() {
        UnlikeRoofs x = Due.town("sort 5 2;sort 6 3;house 1 1;house 2 1;house 1 2;house 2 2;house 4 1;bound 1 1;"
            + "roof 2 0;");
        Due.type(x, "sort");
        x.saw(0, 1);
        x.saw(0, 1);
        x.saw(0, -9);
        int[] due = {5, 2, 2, 4, 3, 4};
        for (int what = 0; what < due.length; what++) {
            Due.is("count " + what, x.count(what), due[what]);
        }
        x.roof(0, 0);
        x.roof(1, -9);
        Due.is("roofs", x.count(2), 2);
        x.roof(2, -9);
        Due.is("roofs", x.count(2), 1);
        Due.is("count -1", x.count(-1), -1);
        Due.is("count 6", x.count(6), -1);
    }
}
