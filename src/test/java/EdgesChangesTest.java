/** Promises 20 to 22, and what section 4 says of them, at their edges, a sentence a test: CHANGE, PAYS, ORDER. */
public final class EdgesChangesTest {
    private static final String BY_TURNS = "roof 0 0;roof 1 1;roof 2 0;roof 3 1;roof 4 0;roof 5 1;roof 6 0;roof 7 1;";
    /** Three side by side, two SORTS by turns. */
    private static final String THREE = "sort 3 2;sort 8 0;house 0 0;house 1 0;house 2 0;roof 0 0;roof 1 1;roof 2 0;";

    public static void main(String[] args) {
        changeFewest();
        changeInTheLargestTown();
        changeNotBound();
        changeFirst();
        changeNone();
        changeAnswers();
        changeBad();
        changeBoundState();
        changeRoofState();
        paysHalf();
        paysBothHave();
        paysInAll();
        paysAnswers();
        paysBad();
        orderFromOld();
        orderLeast();
        orderJustWhereLawful();
        orderWeeks();
        orderNone();
        orderBad();
        Due.finish();
    }

    // Promise 20: A CHANGE: house h gets SORT s: the fewest other houses
    private static void changeFewest() {
        UnlikeRoofs x = Due.town("sort 3 2;sort 8 0;" + Edge.ROW + BY_TURNS);
        Due.is("none need change", x.change(0, 0, 0, -1), 0);
        Due.is("all others must", x.change(0, 1, 0, -1), 7);
        for (int g = 0; g < 8; g++) {
            Due.is("none need change: house " + g, x.change(7, 1, 0, g), g % 2);
            Due.is("all others must: house " + g, x.change(7, 0, 0, g), 1 - g % 2);
        }
        Due.is("nothing is changed", x.breaches(0), 0);
        Due.is("it has its roof still", x.house(7, 2), 1);
        // The fewest, not the cheapest: a dear roof stays where nothing must change it.
        UnlikeRoofs y = Due.town("sort 1 0;sort 99 0;sort 98 0;house 0 0;house 1 0;house 2 0;roof 0 1;roof 1 2;"
            + "roof 2 2;");
        Due.is("of three, one must", y.change(0, 1, 0, -1), 1);
        Due.is("a neighbour that may stay stays", y.change(2, 0, 0, 1), 2);
        Due.is("none must then", y.change(2, 0, 0, -1), 0);
        // A TOWN need not be LAWFUL ahead.
        UnlikeRoofs alike = Due.town("sort 1 0;sort 2 0;" + Edge.ROW + Edge.ALL_ALIKE);
        Due.is("every second must", alike.change(0, 0, 0, -1), 4);
        Due.is("every second but itself", alike.change(0, 1, 0, -1), 3);
        Due.is("the cheapest cost", alike.cheapest(0, -1), 12);
        Due.is("a change costs no prices", alike.change(0, 0, 0, -1), 4);
    }

    // Promise 20: the fewest other houses
    private static void changeInTheLargestTown() {
        // Of two rows of four all alike every second one may stay: 0 2 5 7 or 1 3 4 6.
        UnlikeRoofs x = Due.town("sort 1 0;sort 1 0;sort 1 0;sort 1 0;" + Edge.BLOCK
            + Edge.ALL_ALIKE.replace(" 0;", " 3;"));
        int[] same = {3, 0, 3, 0, 0, 3, 0, 3};
        int[] other = {0, 3, 0, 3, 3, 0, 3, 0};
        Due.is("to what it has: four others", x.change(7, 3, 0, -1), 4);
        Due.is("to another: three others", x.change(7, 0, 0, -1), 3);
        for (int g = 0; g < 8; g++) {
            Due.is("to what it has: house " + g, x.change(7, 3, 0, g), same[g]);
            Due.is("to another: house " + g, x.change(7, 0, 0, g), other[g]);
        }
        for (int h = 0; h < 8; h++) {
            for (int s = 0; s < 4; s++) {
                Due.is("house " + h + " to " + s, x.change(h, s, 0, -1), s == 3 ? 4 : 3);
            }
        }
    }

    // Promise 20: (not BOUND ones) that must get other ROOFS so that THE TOWN is LAWFUL (all have ROOFS ahead);
    private static void changeNotBound() {
        String three = "sort 1 0;sort 2 0;sort 3 0;house 0 0;house 1 0;house 2 0;roof 0 0;roof 1 1;";
        UnlikeRoofs free = Due.town(three + "roof 2 0;");
        Due.is("not bound: one must", free.change(1, 0, 0, -1), 2);
        UnlikeRoofs bound = Due.town(three + "bound 2 0;");
        Due.is("bound: it can't", bound.change(1, 0, 0, -1), -9);
        Due.is("beside a bound one: to a third sort", bound.change(1, 2, 0, -1), 0);
        Due.is("the bound one itself, to its own", bound.change(2, 0, 0, -1), 0);
        Due.is("house 0 to 1: house 1 goes round the bound one", bound.change(0, 1, 0, 1), 2);
        Due.is("house 0 to 1: one must", bound.change(0, 1, 0, -1), 1);
        Due.is("house 0 to 1: the bound one stays", bound.change(0, 1, 0, 2), 0);
        UnlikeRoofs sparks = Due.town("sort 1 0;sort 2 0;house 0 0;house 2 0;roof 0 0;roof 1 1;");
        Due.is("by sparks the other must", sparks.change(0, 1, 1, -1), 1);
        Due.is("without it need not", sparks.change(0, 1, 0, -1), 0);
        UnlikeRoofs bare = Due.town(three);
        Due.is("not all have roofs ahead", bare.change(0, 0, 0, -1), -2);
    }

    // Promise 20: of several rows of ROOFS the first by house 0, then 1, ..: how many; the SORT of a house then; NONE.
    private static void changeFirst() {
        // Houses 1 and 2 break the law: one of them must change.
        String town = "sort 9 0;sort 5 0;sort 1 0;house 7 7;house 0 0;house 1 0;roof 0 0;";
        UnlikeRoofs x = Due.town(town + "roof 1 2;roof 2 2;");
        int[] high = {0, 0, 2};
        UnlikeRoofs y = Due.town(town + "roof 1 0;roof 2 0;");
        int[] low = {0, 0, 1};
        UnlikeRoofs z = Due.town(town + "roof 1 1;roof 2 1;");
        int[] middle = {0, 0, 1};
        for (int g = 0; g < 3; g++) {
            Due.is("2 2 to 0 2: house " + g, x.change(0, 0, 0, g), high[g]);
            Due.is("0 0 to 0 1: house " + g, y.change(0, 0, 0, g), low[g]);
            Due.is("1 1 to 0 1: house " + g, z.change(0, 0, 0, g), middle[g]);
        }
        Due.is("2 2: how many", x.change(0, 0, 0, -1), 1);
        Due.is("0 0: how many", y.change(0, 0, 0, -1), 1);
        // Fewest goes ahead of first: 0 1 0 for 1 2 1 would change two.
        UnlikeRoofs few = Due.town("sort 1 0;sort 1 0;sort 1 0;house 0 0;house 1 0;house 2 0;roof 0 1;roof 1 2;"
            + "roof 2 1;");
        Due.is("fewest is ahead of first", few.change(1, 0, 0, 0), 1);
        Due.is("fewest is ahead of first, behind it", few.change(1, 0, 0, 2), 1);
    }

    // Promise 20: the SORT of a house then; NONE.
    private static void changeNone() {
        UnlikeRoofs x = Due.town(THREE);
        Due.is("two sorts, three houses: there is a row", x.change(1, 0, 0, -1), 2);
        Due.is("by sparks there is none", x.change(1, 0, 1, -1), -9);
        for (int g = 0; g < 3; g++) {
            Due.is("by sparks there is none: house " + g, x.change(1, 0, 1, g), -9);
        }
        UnlikeRoofs bound = Due.town("sort 3 2;sort 8 0;house 0 0;house 1 0;bound 0 0;roof 1 1;");
        Due.is("what a bound one takes", bound.change(1, 0, 0, -1), -9);
        Due.is("what a bound one takes: itself", bound.change(1, 0, 0, 1), -9);
        Due.is("what it leaves", bound.change(1, 1, 0, -1), 0);
    }

    // Promise 20: A CHANGE: how many others (g = -1), the SORT of house g then; NONE.
    private static void changeAnswers() {
        UnlikeRoofs x = Due.town(THREE);
        Due.is("how many others", x.change(0, 1, 0, -1), 2);
        Due.is("house 0 then", x.change(0, 1, 0, 0), 1);
        Due.is("house 1 then", x.change(0, 1, 0, 1), 0);
        Due.is("house 2 then", x.change(0, 1, 0, 2), 1);
        Due.is("one house, to another sort",
            Due.town("sort 3 2;sort 8 0;house 0 0;roof 0 0;").change(0, 1, 1, -1), 0);
        Due.is("one house, then", Due.town("sort 3 2;sort 8 0;house 0 0;roof 0 0;").change(0, 1, 1, 0), 1);
    }

    // Promise 20: BAD;
    private static void changeBad() {
        UnlikeRoofs x = Due.town(THREE);
        UnlikeRoofs bare = Due.town(THREE);
        bare.roof(0, -9);
        for (int none : Edge.noneOf(3)) {
            Due.is("house " + none, x.change(none, 0, 0, -1), -1);
            Due.is("house " + none + " ahead of STATE", bare.change(none, 0, 0, -1), -1);
        }
        for (int s : Edge.noneOf(2)) {
            Due.is("sort " + s, x.change(0, s, 0, -1), -1);
            Due.is("sort " + s + " ahead of STATE", bare.change(0, s, 0, -1), -1);
        }
        for (int sparks : Edge.noFlags()) {
            Due.is("sparks " + sparks, x.change(0, 0, sparks, -1), -1);
            Due.is("sparks " + sparks + " ahead of STATE", bare.change(0, 0, sparks, -1), -1);
        }
        for (int g : new int[] {-2, -9, 3, Edge.LEAST, Edge.GREATEST}) {
            Due.is("house asked " + g, x.change(0, 0, 0, g), -1);
            Due.is("house asked " + g + " ahead of STATE", bare.change(0, 0, 0, g), -1);
        }
        Due.is("the last house, the last sort", x.change(2, 1, 0, 2), 1);
        Due.is("the first ones", x.change(0, 0, 0, 0), 0);
        Due.is("sparks 1", x.change(0, 0, 1, -1), -9);
        Due.is("no houses", Due.town("sort 1 1;").change(0, 0, 0, -1), -1);
    }

    // Promise 20: STATE: h is BOUND to another one,
    private static void changeBoundState() {
        UnlikeRoofs x = Due.town("sort 3 2;sort 8 0;sort 9 0;house 0 0;house 7 7;bound 0 1;roof 1 0;");
        Due.is("bound to 1, 0", x.change(0, 0, 0, -1), -2);
        Due.is("bound to 1, 2", x.change(0, 2, 0, 0), -2);
        Due.is("bound to 1, 1", x.change(0, 1, 0, -1), 0);
        Due.is("another house", x.change(1, 2, 0, -1), 0);
    }

    // Promise 20: or a house has no ROOF.
    private static void changeRoofState() {
        UnlikeRoofs x = Due.town("sort 3 2;sort 8 0;" + Edge.ROW + BY_TURNS);
        for (int bare = 0; bare < 8; bare++) {
            x.roof(bare, -9);
            Due.is("house " + bare + " has none, itself", x.change(bare, 0, 0, -1), -2);
            Due.is("house " + bare + " has none, another", x.change(7 - bare, 0, 0, 0), -2);
            x.roof(bare, bare % 2);
            Due.is("house " + bare + " has one again", x.change(bare, bare % 2, 0, -1), 0);
        }
        UnlikeRoofs bound = Due.town("sort 3 2;house 0 0;bound 0 0;");
        Due.is("bound, with a roof", bound.change(0, 0, 0, -1), 0);
        bound.roof(0, -9);
        Due.is("bound, without", bound.change(0, 0, 0, -1), -2);
    }

    // Promise 21: PAYS: of two that TOUCH with unlike ROOFS
    private static void paysHalf() {
        // 4 dearer: 2.
        String sorts = "sort 5 0;sort 9 0;";
        String[] touching = {"house 3 2;", "house 3 4;", "house 2 3;", "house 4 3;"};
        for (String other : touching) {
            UnlikeRoofs x = Due.town(sorts + "house 3 3;" + other + "roof 0 1;roof 1 0;");
            Due.is("the dearer of 3 3 " + other, x.pays(0), 2);
            Due.is("the other of 3 3 " + other, x.pays(1), -2);
            x.roof(0, 0);
            Due.is("alike", x.pays(0), 0);
        }
        String[] off = {"house 2 2;", "house 4 4;", "house 5 3;", "house 3 1;", "house 2 4;"};
        for (String other : off) {
            UnlikeRoofs x = Due.town(sorts + "house 3 3;" + other + "roof 0 1;roof 1 0;wind left;");
            Due.is("not touching: 3 3 " + other, x.pays(0), 0);
            Due.is("not touching: " + other, x.pays(1), 0);
        }
        Due.is("unlike, of one price", Due.town("sort 5 0;sort 5 1;house 0 0;house 1 0;roof 0 0;roof 1 1;").pays(0), 0);
    }

    // Promise 21: (both have one) that with the dearer ROOF has half of what it is dearer (cut) from the other one:
    private static void paysBothHave() {
        int[] dearer = {0, 1, 2, 3, 4, 97, 98};
        int[] half = {0, 0, 1, 1, 2, 48, 49};
        for (int i = 0; i < dearer.length; i++) {
            UnlikeRoofs x = Due.town("sort 1 0;sort " + (1 + dearer[i]) + " 0;house 0 0;house 1 0;roof 0 0;roof 1 1;");
            Due.is(dearer[i] + " dearer", x.pays(1), half[i]);
            Due.is(dearer[i] + " cheaper", x.pays(0), -half[i]);
            x.roof(0, -9);
            Due.is("the other has none", x.pays(1), 0);
            Due.is("it has none itself", x.pays(0), 0);
            x.roof(1, -9);
            Due.is("none has one", x.pays(1), 0);
        }
    }

    // Promise 21: what a house has in all (below 0: it pays).
    private static void paysInAll() {
        String cross = "sort 1 0;sort 99 0;sort 4 0;house 3 3;house 2 3;house 4 3;house 3 2;house 3 4;";
        UnlikeRoofs x = Due.town(cross + "roof 0 0;roof 1 1;roof 2 1;roof 3 1;roof 4 1;");
        Due.is("pays four", x.pays(0), -196);
        Due.is("each has its own", x.pays(4), 49);
        x.roof(0, 1);
        for (int h = 1; h <= 4; h++) {
            x.roof(h, 0);
        }
        Due.is("has of four", x.pays(0), 196);
        Due.is("each pays its own", x.pays(4), -49);
        // 3 dearer than each: cut for each, not for all.
        x.roof(0, 2);
        Due.is("has 1 of each", x.pays(0), 4);
        x.roof(1, 1);
        x.roof(2, 1);
        // 95: 47 to two, 1 from two.
        Due.is("pays two, has of two", x.pays(0), -92);
    }

    // Promise 21: PAYS.
    private static void paysAnswers() {
        UnlikeRoofs x = Due.town(THREE);
        Due.is("house 0", x.pays(0), -2);
        Due.is("house 1", x.pays(1), 4);
        Due.is("house 2", x.pays(2), -2);
    }

    // Promise 21: NO: BAD.
    private static void paysBad() {
        UnlikeRoofs x = Due.town(THREE);
        for (int h : Edge.noneOf(3)) {
            Due.is("house " + h, x.pays(h), Edge.NO);
        }
        Due.is("the first", x.pays(0), -2);
        Due.is("the last", x.pays(2), -2);
        Due.is("none at all", new UnlikeRoofs().pays(0), Edge.NO);
    }

    // Promise 22: ORDER: from no ROOFS but those told as old (bits) to THE TOWN as it is, a house a week: LAWFUL
    // behind each week;
    private static void orderFromOld() {
        UnlikeRoofs x = Due.town("sort 3 2;sort 8 0;" + Edge.ROW + BY_TURNS);
        for (int h = 0; h < 8; h++) {
            Due.is("all but " + h + " are old", x.order(255 & ~(1 << h), 0, 0), h);
            Due.is("all but " + h + " are old, a week later", x.order(255 & ~(1 << h), 0, 1), -5);
            Due.is("only " + h + " is old: seven weeks", x.order(1 << h, 0, 6), h == 7 ? 6 : 7);
            Due.is("only " + h + " is old: no eighth", x.order(1 << h, 0, 7), -5);
        }
        Due.is("none is old", x.order(0, 0, 7), 7);
        Due.is("all are old", x.order(255, 0, 0), -5);
        x.roof(2, -9);
        Due.is("one without a roof does not come", x.order(0, 0, 2), 3);
        Due.is("seven come", x.order(0, 0, 6), 7);
        Due.is("there is no eighth then", x.order(0, 0, 7), -5);
        Due.is("one without a roof may be called old", x.order(4, 0, 6), 7);
        Due.is("roofs stay", x.count(2), 7);
    }

    // Promise 22: the order: of all the first by house (each the least that may come next); NONE.
    private static void orderLeast() {
        UnlikeRoofs x = Due.town("sort 3 2;sort 8 0;" + Edge.ROW + BY_TURNS);
        for (int w = 0; w < 8; w++) {
            Due.is("week " + w, x.order(0, 0, w), w);
        }
        int[] odd = {1, 3, 5, 7, -5};
        for (int w = 0; w < odd.length; w++) {
            Due.is("the even ones are old: week " + w, x.order(85, 0, w), odd[w]);
        }
    }

    // Promise 22: (It can be told just where THE TOWN is LAWFUL.)
    private static void orderJustWhereLawful() {
        UnlikeRoofs x = Due.town("sort 3 2;sort 8 0;house 0 0;house 1 0;house 3 0;roof 0 0;roof 1 1;roof 2 1;");
        Due.is("lawful without sparks", x.order(0, 0, 0), 0);
        Due.is("not by sparks", x.order(0, 1, 0), -9);
        x.roof(2, 0);
        Due.is("lawful by sparks, too", x.order(0, 1, 2), 2);
        x.roof(1, 0);
        Due.is("not lawful", x.order(0, 0, 0), -9);
        Due.is("also where those two are old", x.order(3, 0, 0), -9);
        x.roof(1, -9);
        Due.is("without that roof it is", x.order(0, 0, 1), 2);
    }

    // Promise 22: ORDER: the house of week w (0 on; -5: not so many).
    private static void orderWeeks() {
        UnlikeRoofs x = Due.town("sort 3 2;sort 8 0;" + Edge.ROW + BY_TURNS);
        Due.is("week 0", x.order(0, 0, 0), 0);
        Due.is("week 7", x.order(0, 0, 7), 7);
        Due.is("week 8", x.order(0, 0, 8), -5);
        Due.is("the latest week", x.order(0, 0, Edge.GREATEST), -5);
        Due.is("no houses", new UnlikeRoofs().order(0, 0, 0), -5);
        Due.is("no roofs", Due.town("house 0 0;").order(0, 1, 0), -5);
    }

    // Promise 22: NONE: THE TOWN is not LAWFUL.
    private static void orderNone() {
        UnlikeRoofs x = Due.town("sort 3 2;sort 8 0;house 0 0;house 2 0;roof 0 0;roof 1 0;");
        Due.is("lawful: too late a week", x.order(0, 0, 2), -5);
        Due.is("not lawful: too late a week", x.order(0, 1, 2), -9);
        Due.is("not lawful: all are old", x.order(-1, 1, 0), -9);
        Due.is("not lawful: week 0", x.order(0, 1, 0), -9);
    }

    // Promise 22: BAD (old: bits of houses that there are not are left out; w below 0).
    private static void orderBad() {
        UnlikeRoofs x = Due.town("sort 3 2;sort 8 0;house 0 0;house 2 0;roof 0 0;roof 1 0;");
        for (int w : new int[] {-1, -5, -9, Edge.LEAST}) {
            Due.is("week " + w, x.order(0, 0, w), -1);
            Due.is("week " + w + " ahead of NONE", x.order(0, 1, w), -1);
        }
        for (int sparks : Edge.noFlags()) {
            Due.is("sparks " + sparks, x.order(0, sparks, 0), -1);
        }
        for (int old : new int[] {4, 8, 128, 256, 65536, Edge.LEAST, ~3}) {
            Due.is("bits of no house: " + old, x.order(old, 0, 0), 0);
            Due.is("bits of no house, and of 0: " + old, x.order(old | 1, 0, 0), 1);
            Due.is("bits of no house, and of 0 and 1: " + old, x.order(old | 3, 0, 0), -5);
        }
        Due.is("all bits", x.order(-1, 0, 0), -5);
        Due.is("the greatest", x.order(Edge.GREATEST, 0, 0), -5);
        Due.is("bits of no house in an empty town", new UnlikeRoofs().order(-1, 0, 0), -5);
    }
}
