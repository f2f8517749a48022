/** Promises 5 to 8 and 28, and section 1, at their edges, a sentence a test: cells, SORTS, ROOFS, WIND, counts. */
public final class EdgesTownTest {
    private static final String FOUR_SORTS = "sort 99 0;sort 98 1;sort 2 8;sort 1 9;";

    public static void main(String[] args) {
        cells();
        houses();
        sorts();
        burn();
        roofAndBound();
        touch();
        windAtFirst();
        sparks();
        sparksEndAtTheRim();
        houseTells();
        houseBad();
        sortTells();
        sortBad();
        roofGets();
        roofBad();
        roofState();
        windWas();
        windBad();
        countTells();
        countBad();
        Due.finish();
    }

    // Promises 4, 5 and 13: 7 each; x to the right, y down).
    private static void cells() {
        UnlikeRoofs x = Due.town("sort 1 1;house 0 0;house 7 7;house 7 0;house 0 7;house 2 0;house 0 2;roof 0 0;"
            + "roof 4 0;roof 5 0;");
        int[][] cells = {{0, 0}, {7, 7}, {7, 0}, {0, 7}};
        for (int h = 0; h < cells.length; h++) {
            Due.is("x " + h, x.house(h, 0), cells[h][0]);
            Due.is("y " + h, x.house(h, 1), cells[h][1]);
        }
        Due.fault("house ^8 0;");
        Due.fault("house 0 ^8;");
        Due.fault("house ^-1 0;");
        x.wind(1);
        Due.is("a higher x lies to the right", x.catches(0, 4), 1);
        Due.is("a higher y does not", x.catches(0, 5), -9);
        x.wind(2);
        Due.is("a higher y lies down", x.catches(0, 5), 1);
        Due.is("a higher x does not", x.catches(0, 4), -9);
    }

    // Promises 4, 5 and 28: HOUSES 0 .. (8 at most), each on a cell of its own.
    private static void houses() {
        UnlikeRoofs x = Due.town(Edge.BLOCK);
        Due.is("eight", x.count(0), 8);
        Due.is("house 7", x.house(7, 0), 3);
        Due.is("no house 8", x.house(8, 0), -1);
        Due.fault(Edge.BLOCK + "^house 7 7;");
        Due.reads("house 1 1;house 1 2;", 2);
        Due.fault("house 1 1;house 1 ^1;");
        Due.is("none", Due.town("").count(0), 0);
        Due.is("no house 0", Due.town("").house(0, 0), -1);
    }

    // Promises 4, 6 and 28: SORTS 0 .. (4 at most) have a PRICE (1 .. 99),
    private static void sorts() {
        UnlikeRoofs x = Due.town(FOUR_SORTS);
        Due.is("four", x.count(1), 4);
        Due.is("the highest price", x.sort(0, 0), 99);
        Due.is("the lowest price", x.sort(3, 0), 1);
        Due.is("no sort 4", x.sort(4, 0), -1);
        Due.fault(FOUR_SORTS + "^sort 5 5;");
        Due.fault("sort ^0 5;");
        Due.fault("sort ^100 5;");
        Due.is("none", Due.town("").count(1), 0);
        Due.is("no sort 0", Due.town("").sort(0, 0), -1);
    }

    // Promises 4, 6, 13 and 14: BURN for so many minutes (0 .. 9; 0: they do not catch fire).
    private static void burn() {
        UnlikeRoofs x = Due.town("sort 5 0;sort 5 1;sort 5 9;house 0 0;house 1 0;roof 0 0;roof 1 0;");
        Due.is("0", x.sort(0, 1), 0);
        Due.is("1", x.sort(1, 1), 1);
        Due.is("9", x.sort(2, 1), 9);
        Due.fault("sort 5 ^10;");
        Due.is("0 does not catch fire", x.fire(0, 0), -2);
        Due.is("nor from another", x.catches(0, 1), -2);
        x.roof(0, 1);
        Due.is("beside one of 0", x.catches(0, 1), -9);
        Due.is("1 catches, and lasts a minute", x.fire(0, 2), 1);
        x.roof(0, 2);
        Due.is("9 lasts nine", x.fire(0, 2), 9);
    }

    // Promises 4, 5 and 7: A house has a ROOF (a SORT, or none at first), may be BOUND to one SORT.
    private static void roofAndBound() {
        UnlikeRoofs x = Due.town("sort 5 0;sort 5 1;house 0 0;house 1 0;bound 1 1;");
        Due.is("none at first", x.house(0, 2), -9);
        Due.is("bound to none", x.house(0, 3), -9);
        Due.is("bound to one", x.house(1, 3), 1);
        x.roof(0, 0);
        Due.is("a sort", x.house(0, 2), 0);
        Due.is("a roof does not bind", x.house(0, 3), -9);
        Due.fault("sort 5 0;sort 5 1;house 0 0;bound 0 1;bound ^0 0;");
    }

    // Promises 5 and 28: Two houses TOUCH, if their cells are side by side (x or y one apart, the other one alike).
    private static void touch() {
        String[] touching = {"house 3 2;", "house 3 4;", "house 2 3;", "house 4 3;"};
        for (String other : touching) {
            UnlikeRoofs x = Due.town("house 3 3;" + other);
            Due.is("3 3 and " + other, x.house(0, 4), 1);
            Due.is(other + " and 3 3", x.house(1, 4), 1);
            Due.is("a pair of 3 3 and " + other, x.count(3), 1);
        }
        String[] apart = {"house 2 2;", "house 4 4;", "house 2 4;", "house 4 2;", "house 3 1;", "house 3 5;",
            "house 1 3;", "house 5 3;", "house 4 5;", "house 5 4;"};
        for (String other : apart) {
            UnlikeRoofs x = Due.town("house 3 3;" + other);
            Due.is("3 3 and " + other, x.house(0, 4), 0);
            Due.is("no pair of 3 3 and " + other, x.count(3), 0);
        }
        // The hill ends at its rim: what is over it is not on its other side.
        Due.is("the rim", Due.town("house 7 0;house 0 0;house 0 1;house 7 7;house 0 7;").count(3), 1);
    }

    // Promises 1, 4 and 8: WIND: 0 none, 1 right, 2 down, 3 left, 4 up (0 at first);
    private static void windAtFirst() {
        Due.is("at first", new UnlikeRoofs().wind(0), 0);
        Due.is("in a town that tells none", Due.town("house 0 0;").wind(0), 0);
        String[] words = {"none", "right", "down", "left", "up"};
        for (int w = 0; w < words.length; w++) {
            Due.is(words[w], Due.town("wind " + words[w] + ";").wind(0), w);
        }
    }

    // Promises 8 and 13: SPARKS: in WIND a house throws them over one cell: to the house two cells off in that
    // direction.
    private static void sparks() {
        String town = "sort 1 1;house 3 3;house 5 3;house 3 5;house 1 3;house 3 1;house 6 3;house 3 6;house 4 5;"
            + "roof 0 0;roof 1 0;roof 2 0;roof 3 0;roof 4 0;roof 7 0;";
        UnlikeRoofs x = Due.town(town);
        for (int w = 0; w <= 4; w++) {
            x.wind(w);
            for (int h = 1; h <= 4; h++) {
                Due.is("two off, wind " + w + ", house " + h, x.catches(0, h), h == w ? 1 : -9);
            }
        }
        UnlikeRoofs y = Due.town("sort 1 1;house 3 3;house 6 3;house 4 4;house 2 4;house 5 4;roof 0 0;roof 1 0;"
            + "roof 2 0;roof 3 0;roof 4 0;");
        for (int w = 0; w <= 4; w++) {
            y.wind(w);
            Due.is("three off or slanted, wind " + w, y.fire(0, 0), 1);
        }
    }

    // Promise 13: to the house two cells off in that direction.
    private static void sparksEndAtTheRim() {
        // Behind the house at the rim: the cells on the other side, in its own row and in the next one.
        String[][] towns = {{"house 7 3;", "house 1 3;house 1 4;"}, {"house 3 7;", "house 3 1;house 4 1;"},
            {"house 0 3;", "house 6 3;house 6 2;"}, {"house 3 0;", "house 3 6;house 2 6;"},
            {"house 6 3;", "house 0 3;house 0 4;"}, {"house 3 6;", "house 3 0;house 4 0;"},
            {"house 1 3;", "house 7 3;house 7 2;"}, {"house 3 1;", "house 3 7;house 2 7;"}};
        for (int i = 0; i < towns.length; i++) {
            UnlikeRoofs x = Due.town("sort 1 1;" + towns[i][0] + towns[i][1] + "roof 0 0;roof 1 0;roof 2 0;");
            int w = i % 4 + 1;
            x.wind(w);
            Due.is("wind " + w + " over the rim of " + towns[i][0], x.fire(0, 0), 1);
        }
        String[][] inside = {{"house 5 3;", "house 7 3;"}, {"house 3 5;", "house 3 7;"}, {"house 2 3;", "house 0 3;"},
            {"house 3 2;", "house 3 0;"}};
        for (int i = 0; i < inside.length; i++) {
            UnlikeRoofs x = Due.town("sort 1 1;" + inside[i][0] + inside[i][1] + "roof 0 0;roof 1 0;");
            x.wind(i + 1);
            Due.is("wind " + (i + 1) + " to the rim from " + inside[i][0], x.fire(0, 0), 2);
        }
    }

    // Promise 5: Of a house: 0 x, 1 y, 2 ROOF (NONE), 3 to what it is BOUND (NONE), 4 how many it TOUCHES.
    private static void houseTells() {
        UnlikeRoofs x = Due.town("sort 5 0;sort 5 1;house 6 5;house 6 6;house 6 4;house 5 5;house 7 5;house 0 7;"
            + "bound 0 1;roof 1 0;");
        int[][] due = {{6, 5, 1, 1, 4}, {6, 6, 0, -9, 1}, {6, 4, -9, -9, 1}, {5, 5, -9, -9, 1}, {7, 5, -9, -9, 1},
            {0, 7, -9, -9, 0}};
        for (int h = 0; h < due.length; h++) {
            for (int what = 0; what <= 4; what++) {
                Due.is("house " + h + " " + what, x.house(h, what), due[h][what]);
            }
        }
        x.roof(0, -9);
        Due.is("no roof, but bound: roof", x.house(0, 2), -9);
        Due.is("no roof, but bound: bound", x.house(0, 3), 1);
        Due.is("no roof, but bound: touches", x.house(0, 4), 4);
    }

    // Promise 5: BAD.
    private static void houseBad() {
        UnlikeRoofs x = Due.town(Edge.BLOCK);
        UnlikeRoofs one = Due.town("house 4 5;");
        UnlikeRoofs none = new UnlikeRoofs();
        for (int what = 0; what <= 4; what++) {
            for (int h : Edge.noneOf(8)) {
                Due.is("house " + h + " " + what, x.house(h, what), -1);
            }
            Due.is("of one: house 1 " + what, one.house(1, what), -1);
            Due.is("of none: house 0 " + what, none.house(0, what), -1);
        }
        for (int what : new int[] {-1, 5, Edge.LEAST, Edge.GREATEST}) {
            Due.is("what " + what, one.house(0, what), -1);
        }
        Due.is("what 0", one.house(0, 0), 4);
        Due.is("what 4", one.house(0, 4), 0);
        Due.is("house 7", x.house(7, 1), 1);
    }

    // Promise 6: Of a SORT: 0 PRICE, 1 BURN.
    private static void sortTells() {
        UnlikeRoofs x = Due.town(FOUR_SORTS);
        int[][] due = {{99, 0}, {98, 1}, {2, 8}, {1, 9}};
        for (int s = 0; s < due.length; s++) {
            Due.is("price " + s, x.sort(s, 0), due[s][0]);
            Due.is("burn " + s, x.sort(s, 1), due[s][1]);
        }
    }

    // Promise 6: BAD.
    private static void sortBad() {
        UnlikeRoofs x = Due.town(FOUR_SORTS);
        UnlikeRoofs one = Due.town("sort 7 3;");
        UnlikeRoofs none = new UnlikeRoofs();
        for (int what = 0; what <= 1; what++) {
            for (int s : Edge.noneOf(4)) {
                Due.is("sort " + s + " " + what, x.sort(s, what), -1);
            }
            Due.is("of one: sort 1 " + what, one.sort(1, what), -1);
            Due.is("of none: sort 0 " + what, none.sort(0, what), -1);
        }
        for (int what : new int[] {-1, 2, Edge.LEAST, Edge.GREATEST}) {
            Due.is("what " + what, one.sort(0, what), -1);
        }
        Due.is("sort 0", one.sort(0, 0), 7);
        Due.is("sort 3", x.sort(3, 1), 9);
    }

    // Promise 7: A house gets a ROOF (s NONE: none, also where it is BOUND): what it had (NONE).
    private static void roofGets() {
        UnlikeRoofs x = Due.town(FOUR_SORTS + "house 0 0;house 5 5;bound 1 3;");
        Due.is("had none", x.roof(0, 0), -9);
        Due.is("had 0", x.roof(0, 3), 0);
        Due.is("had 3", x.roof(0, 3), 3);
        Due.is("gets none", x.roof(0, -9), 3);
        Due.is("gets none again", x.roof(0, -9), -9);
        Due.is("has none", x.house(0, 2), -9);
        Due.is("bound gets what it has", x.roof(1, 3), 3);
        Due.is("bound gets none", x.roof(1, -9), 3);
        Due.is("bound has none", x.house(1, 2), -9);
        Due.is("it is bound still", x.house(1, 3), 3);
        Due.is("bound gets its own again", x.roof(1, 3), -9);
        Due.is("bound has its own", x.house(1, 2), 3);
    }

    // Promise 7: BAD;
    private static void roofBad() {
        UnlikeRoofs x = Due.town("sort 5 0;sort 5 1;house 0 0;house 1 0;roof 0 1;");
        for (int h : Edge.noneOf(2)) {
            Due.is("house " + h, x.roof(h, 0), -1);
            Due.is("house " + h + " none", x.roof(h, -9), -1);
        }
        for (int s : new int[] {-1, -8, -10, 2, Edge.LEAST, Edge.GREATEST}) {
            Due.is("sort " + s, x.roof(0, s), -1);
        }
        Due.is("nothing changed", x.house(0, 2), 1);
        Due.is("house 1, sort 1", x.roof(1, 1), -9);
        Due.is("house 0, sort 0", x.roof(0, 0), 1);
        Due.is("no house", new UnlikeRoofs().roof(0, -9), -1);
    }

    // Promise 7: STATE: it is BOUND to another SORT.
    private static void roofState() {
        UnlikeRoofs x = Due.town("sort 5 0;sort 5 1;sort 5 2;house 0 0;house 1 0;bound 0 1;");
        Due.is("bound to 1, 0", x.roof(0, 0), -2);
        Due.is("bound to 1, 2", x.roof(0, 2), -2);
        Due.is("nothing changed", x.house(0, 2), 1);
        Due.is("bound to 1, 1", x.roof(0, 1), 1);
        Due.is("not bound", x.roof(1, 0), -9);
        x.roof(0, -9);
        Due.is("without its roof it is bound still", x.roof(0, 0), -2);
        Due.is("it has none", x.house(0, 2), -9);
        Due.is("BAD is first", x.roof(0, 3), -1);
    }

    // Promise 8: WIND (0 .. 4): what it was.
    private static void windWas() {
        UnlikeRoofs x = Due.town("wind up;");
        Due.is("0 behind 4", x.wind(0), 4);
        Due.is("4 behind 0", x.wind(4), 0);
        Due.is("4 behind 4", x.wind(4), 4);
        for (int w = 3; w >= 0; w--) {
            Due.is(w + " behind " + (w + 1), x.wind(w), w + 1);
        }
    }

    // Promise 8: BAD.
    private static void windBad() {
        UnlikeRoofs x = Due.town("wind left;");
        for (int w : Edge.noneOf(5)) {
            Due.is("wind " + w, x.wind(w), -1);
        }
        Due.is("nothing changed", x.wind(0), 3);
        Due.is("0 is one", x.wind(4), 0);
        Due.is("4 is one", x.wind(4), 4);
    }

    // Promise 28: 0 HOUSES, 1 SORTS, 2 ROOFS that there are, 3 pairs that TOUCH, 4 SEEN, 5 bytes of THE TEXT.
    private static void countTells() {
        UnlikeRoofs none = new UnlikeRoofs();
        UnlikeRoofs all = Due.town(FOUR_SORTS + Edge.BLOCK + "bound 0 0;roof 1 1;roof 2 1;roof 3 1;roof 4 1;"
            + "roof 5 1;roof 6 1;roof 7 1;");
        for (int i = 0; i < 8; i++) {
            all.saw(7, i);
        }
        Due.type(all, " ".repeat(300));
        int[] due = {8, 4, 8, 10, 8, 300};
        for (int what = 0; what < due.length; what++) {
            Due.is("none: count " + what, none.count(what), 0);
            Due.is("all: count " + what, all.count(what), due[what]);
        }
        all.saw(7, 8);
        all.type(' ', 1);
        Due.is("a ninth is not seen", all.count(4), 8);
        Due.is("byte 301 is not there", all.count(5), 300);
        all.roof(0, -9);
        Due.is("seven roofs", all.count(2), 7);
        Due.is("houses without a roof touch", all.count(3), 10);
    }

    // Promise 28: BAD.
    private static void countBad() {
        UnlikeRoofs x = Due.town(FOUR_SORTS + Edge.BLOCK);
        for (int what : Edge.noneOf(6)) {
            Due.is("count " + what, x.count(what), -1);
        }
        Due.is("count 0", x.count(0), 8);
        Due.is("count 5", x.count(5), 0);
    }
}
