/** Promises 20 to 24: changes, payments, weeks, years, the lot. */
public final class ChangesTest {
    private static final String ROW = "sort 2 1;sort 7 1;sort 10 0;house 0 0;house 1 0;house 2 0;house 3 0;";

    public static void main(String[] args) {
        change();
        changeIsFirst();
        changeRefused();
        pays();
        order();
        years();
        yearsOfAnyTown();
        lot();
        Due.finish();
    }

    private static void change() {
        UnlikeRoofs x = Due.town(ROW + "roof 0 0;roof 1 1;roof 2 0;roof 3 1;");
        Due.is("as it is", x.change(0, 0, 0, -1), 0);
        Due.is("to a third sort", x.change(1, 2, 0, -1), 0);
        Due.is("to a third sort: itself", x.change(1, 2, 0, 1), 2);
        Due.is("to its neighbour's", x.change(0, 1, 0, -1), 1);
        int[] due = {1, 2, 0, 1};
        for (int g = 0; g < 4; g++) {
            Due.is("to its neighbour's: house " + g, x.change(0, 1, 0, g), due[g]);
        }
        Due.is("nothing changes", x.house(0, 2), 0);
        x.roof(1, 0);
        Due.is("an unlawful town is mended", x.change(3, 1, 0, -1), 1);
        Due.is("an unlawful town is mended: 1", x.change(3, 1, 0, 1), 1);
        UnlikeRoofs two = Due.town("sort 2 1;sort 7 1;house 0 0;house 1 0;house 2 0;house 3 0;roof 0 0;roof 1 1;"
            + "roof 2 0;roof 3 1;");
        Due.is("two sorts: all change", two.change(2, 1, 0, -1), 3);
        Due.is("two sorts: house 0", two.change(2, 1, 0, 0), 1);
        Due.is("by sparks no way", two.change(2, 1, 1, -1), -9);
        Due.is("by sparks no way: house", two.change(2, 1, 1, 2), -9);
        Due.is("as they are by sparks no way", two.change(2, 0, 1, -1), -9);
    }

    private static void changeIsFirst() {
        UnlikeRoofs x = Due.town("sort 2 1;sort 7 1;sort 9 1;sort 9 1;house 0 0;house 1 0;house 5 5;roof 0 3;roof 1 2;"
            + "roof 2 2;");
        Due.is("of several the first", x.change(0, 2, 0, 1), 0);
        Due.is("of several: how many", x.change(0, 2, 0, -1), 1);
        Due.is("others stay", x.change(0, 2, 0, 2), 2);
        UnlikeRoofs y = Due.town("sort 2 1;sort 7 1;sort 9 1;house 1 0;house 0 0;house 2 0;bound 0 1;roof 1 0;"
            + "roof 2 2;");
        Due.is("a bound one stays", y.change(1, 1, 0, -1), -9);
        Due.is("beside a bound one", y.change(1, 2, 0, -1), 0);
        Due.is("a bound one to what it is", y.change(0, 1, 0, -1), 0);
        UnlikeRoofs z = Due.town("sort 2 1;sort 7 1;sort 9 1;house 0 0;house 1 0;house 2 0;bound 2 0;roof 0 0;roof 1 1;");
        Due.is("to 1: its neighbour gets 2, not the bound one's", z.change(0, 1, 0, 1), 2);
        Due.is("by sparks the bound one is in the way", z.change(0, 0, 1, -1), -9);
    }

    private static void changeRefused() {
        UnlikeRoofs x = Due.town(ROW + "bound 0 0;roof 1 1;roof 2 0;");
        Due.is("a house without a roof", x.change(1, 1, 0, -1), -2);
        Due.is("itself without a roof", x.change(3, 1, 0, -1), -2);
        x.roof(3, 1);
        Due.is("bound to another", x.change(0, 1, 0, -1), -2);
        Due.is("bound to it", x.change(0, 0, 0, -1), 0);
        Due.is("h -1", x.change(-1, 0, 0, -1), -1);
        Due.is("h 4", x.change(4, 0, 0, -1), -1);
        Due.is("s -1", x.change(0, -1, 0, -1), -1);
        Due.is("s NONE", x.change(0, -9, 0, -1), -1);
        Due.is("s 3", x.change(0, 3, 0, -1), -1);
        Due.is("sparks 2", x.change(0, 0, 2, -1), -1);
        Due.is("sparks -1", x.change(0, 0, -1, -1), -1);
        Due.is("g -2", x.change(0, 0, 0, -2), -1);
        Due.is("g 4", x.change(0, 0, 0, 4), -1);
        Due.is("BAD is ahead of STATE", x.change(0, 1, 0, 4), -1);
        x.roof(0, -9);
        Due.is("a bound one without a roof", x.change(1, 1, 0, -1), -2);
    }

    private static void pays() {
        UnlikeRoofs x = Due.town(ROW + "house 1 1;house 5 5;roof 0 0;roof 1 1;roof 2 2;roof 4 2;roof 5 2;");
        // 7 - 2 = 5: 2; 10 - 7 = 3: 1, twice.
        int[] due = {-2, 0, 1, 0, 1, 0};
        for (int h = 0; h < due.length; h++) {
            Due.is("pays " + h, x.pays(h), due[h]);
        }
        x.roof(1, 0);
        int[] alike = {0, -8, 4, 0, 4, 0};
        for (int h = 0; h < alike.length; h++) {
            Due.is("two alike: pays " + h, x.pays(h), alike[h]);
        }
        x.roof(1, -9);
        Due.is("without a roof", x.pays(1), 0);
        Due.is("beside one without", x.pays(0), 0);
        Due.is("pays -1", x.pays(-1), -1000000);
        Due.is("pays 6", x.pays(6), -1000000);
        UnlikeRoofs even = Due.town("sort 5 1;sort 5 1;sort 6 1;house 0 0;house 1 0;house 2 0;roof 0 0;roof 1 1;"
            + "roof 2 2;");
        Due.is("unlike, of one price", even.pays(0), 0);
        Due.is("one dearer is cut to 0", even.pays(2), 0);
    }

    private static void order() {
        UnlikeRoofs x = Due.town(ROW + "house 7 7;roof 0 0;roof 1 1;roof 2 0;roof 4 0;");
        int[] all = {0, 1, 2, 4, -5, -5};
        for (int w = 0; w < all.length; w++) {
            Due.is("order 0 week " + w, x.order(0, 0, w), all[w]);
        }
        int[] some = {0, 2, -5};
        for (int w = 0; w < some.length; w++) {
            Due.is("old 1 4, one without a roof, one that there is not: week " + w,
                x.order(2 | 8 | 16 | 64, 0, w), some[w]);
        }
        Due.is("all are old", x.order(-1, 0, 0), -5);
        Due.is("the least old", x.order(Integer.MIN_VALUE, 0, 3), 4);
        Due.is("late week", x.order(0, 0, Integer.MAX_VALUE), -5);
        Due.is("by sparks not lawful", x.order(0, 1, 0), -9);
        Due.is("by sparks not lawful, all old", x.order(-1, 1, 0), -9);
        Due.is("w -1", x.order(0, 0, -1), -1);
        Due.is("sparks 2", x.order(0, 2, 0), -1);
        Due.is("BAD is ahead of NONE", x.order(0, 1, -1), -1);
        Due.is("no houses", new UnlikeRoofs().order(0, 0, 0), -5);
    }

    /**
     * From 1 on the draws are 16838 38526, 10113 50283, 63819 38395, 55778 40187, 48980 4086: with three houses
     * house 2 wind right, 0 left, 0 none, 2 down, 2 right.
     */
    private static void years() {
        UnlikeRoofs x = Due.town("sort 4 3;sort 7 2;sort 9 0;house 4 0;house 2 0;house 0 0;roof 0 0;roof 1 0;wind up;");
        int[] saved = {21, 34, 37, 44, 65};
        for (int n = 1; n <= 5; n++) {
            x.lot(1);
            Due.is("years " + n + " 1", x.years(n, 1), saved[n - 1]);
        }
        Due.is("the lot went on", x.lot(1), 267834847);
        Due.is("a sort that does not burn", x.years(5, 2), -12);
        x.lot(1);
        Due.is("the sort of two of them", x.years(5, 0), 32);
        Due.is("the wind stays", x.wind(4), 4);
        Due.is("the roofs stay", x.house(0, 2), 0);
        Due.is("none stays none", x.house(2, 2), -9);
    }

    private static void yearsOfAnyTown() {
        UnlikeRoofs x = Due.town("sort 4 3;sort 7 2;house 0 0;house 1 0;bound 0 0;");
        x.lot(123);
        Due.is("n 0", x.years(0, 0), -1000000);
        Due.is("n 100", x.years(100, 0), -1000000);
        Due.is("n -1", x.years(-1, 0), -1000000);
        Due.is("s 2", x.years(1, 2), -1000000);
        Due.is("s -1", x.years(1, -1), -1000000);
        Due.is("s NONE", x.years(1, -9), -1000000);
        Due.is("a refusal draws nothing", x.lot(1), 123);
        UnlikeRoofs bare = Due.town("sort 4 3;");
        Due.is("no houses", bare.years(1, 0), -1000000);
        Due.is("no houses: nothing is drawn", bare.lot(1), 1);
        // Two that touch, nothing roofed: each fire would take both, whatever the wind.
        UnlikeRoofs two = Due.town("sort 4 3;house 0 0;house 1 0;");
        Due.is("99 fires of both", two.years(99, 0), 99 * 8);
        UnlikeRoofs own = Due.town("sort 4 3;sort 7 2;house 0 0;house 1 0;bound 0 0;roof 1 0;");
        Due.is("all as they are", own.years(50, 0), 0);
        Due.is("bound ones, too", own.years(50, 1), 50 * 6);
    }

    private static void lot() {
        UnlikeRoofs x = new UnlikeRoofs();
        Due.is("lot", x.lot(Integer.MIN_VALUE), 1);
        Due.is("lot", x.lot(-9), Integer.MIN_VALUE);
        Due.is("lot", x.lot(0), -9);
        Due.is("lot", x.lot(0), 0);
        // An upper half that is above 32767 is no number below 0.
        UnlikeRoofs y = Due.town("sort 4 3;house 0 0;house 3 0;roof 0 0;");
        for (int v = -40; v <= 40; v++) {
            y.lot(v * 77777777);
            int next = v * 77777777 * 1103515245 + 12345;
            boolean first = (next >>> 16) % 2 == 0;
            Due.is("a draw from " + v, y.years(1, 0), first ? 0 : 4);
        }
    }
}
