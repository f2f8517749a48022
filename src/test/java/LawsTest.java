/** Promises 9 to 12: breaches, cheapest lawful roofs, how many ways, what the law leaves no choice of. */
public final class LawsTest {
    private static final String CORNERS = "house 0 0;house 2 0;house 0 2;house 2 2;house 4 4;";

    public static void main(String[] args) {
        breaches();
        cheapest();
        cheapestIsFirst();
        ways();
        must();
        boundTowns();
        wideTown();
        Due.finish();
    }

    private static void breaches() {
        UnlikeRoofs x = Due.town("sort 5 2;sort 6 3;house 1 1;house 2 1;house 3 1;house 2 3;house 2 2;house 4 1;");
        Due.is("without roofs", x.breaches(1), 0);
        x.roof(0, 0);
        x.roof(1, 0);
        Due.is("two alike", x.breaches(0), 1);
        x.roof(2, 0);
        Due.is("three in a row", x.breaches(0), 2);
        Due.is("three in a row, sparks", x.breaches(1), 3);
        x.roof(3, 0);
        Due.is("two off below, nothing between", x.breaches(0), 2);
        Due.is("two off below, sparks", x.breaches(1), 4);
        x.roof(4, 1);
        Due.is("another sort between keeps no spark off", x.breaches(1), 4);
        x.roof(5, 0);
        Due.is("three off is no pair", x.breaches(1), 6);
        x.wind(3);
        Due.is("the wind that blows is no matter", x.breaches(1), 6);
        Due.is("sparks 2", x.breaches(2), -1);
        Due.is("sparks -1", x.breaches(-1), -1);
        UnlikeRoofs slant = Due.town("sort 1 1;house 1 1;house 2 2;house 3 0;house 0 3;roof 0 0;roof 1 0;roof 2 0;"
            + "roof 3 0;");
        Due.is("slanted houses are no pair", slant.breaches(1), 0);
    }

    private static void cheapest() {
        UnlikeRoofs x = Due.town("sort 3 4;sort 9 2;house 0 0;house 1 0;house 2 0;");
        Due.is("3 + 9 + 3", x.cheapest(0, -1), 15);
        Due.is("house 0", x.cheapest(0, 0), 0);
        Due.is("house 1", x.cheapest(0, 1), 1);
        Due.is("house 2", x.cheapest(0, 2), 0);
        Due.is("three houses that all may not be alike", x.cheapest(1, -1), -9);
        Due.is("no row, house 1", x.cheapest(1, 1), -9);
        x.roof(0, 1);
        x.roof(1, 1);
        Due.is("roofs as they are do not matter", x.cheapest(0, -1), 15);
        Due.is("sparks 2", x.cheapest(2, -1), -1);
        Due.is("sparks -1", x.cheapest(-1, -1), -1);
        Due.is("h -2", x.cheapest(0, -2), -1);
        Due.is("h 3", x.cheapest(0, 3), -1);
        Due.is("h NONE", x.cheapest(0, -9), -1);
        Due.is("no houses", new UnlikeRoofs().cheapest(1, -1), 0);
        Due.is("no sorts", Due.town("house 0 0;").cheapest(0, 0), -9);
    }

    private static void cheapestIsFirst() {
        UnlikeRoofs x = Due.town("sort 7 1;sort 4 1;sort 4 1;house 0 0;house 1 0;house 5 5;");
        int[] due = {1, 2, 1};
        for (int h = 0; h < due.length; h++) {
            Due.is("of dear alike the first: house " + h, x.cheapest(0, h), due[h]);
        }
        UnlikeRoofs y = Due.town("sort 4 1;sort 4 1;sort 1 1;house 1 0;house 0 0;house 2 0;house 1 1;");
        // The middle house is 0: it is dear, all others cheap.
        int[] star = {0, 2, 2, 2};
        for (int h = 0; h < star.length; h++) {
            Due.is("a star: house " + h, y.cheapest(0, h), star[h]);
        }
        Due.is("a star", y.cheapest(0, -1), 7);
    }

    private static void ways() {
        UnlikeRoofs x = Due.town("sort 3 4;sort 9 2;sort 1 1;house 0 0;house 1 0;house 2 0;house 7 7;");
        Due.is("3 * 2 * 2 * 3", x.ways(0), 36);
        Due.is("3 * 2 * 1 * 3", x.ways(1), 18);
        Due.is("sparks 2", x.ways(2), -1);
        Due.is("sparks -9", x.ways(-9), -1);
        Due.is("no houses, no sorts", new UnlikeRoofs().ways(0), 1);
        Due.is("no houses, a sort", Due.town("sort 1 1;").ways(1), 1);
        Due.is("no sorts", Due.town("house 0 0;").ways(0), 0);
        UnlikeRoofs four = Due.town("sort 3 4;sort 9 2;" + CORNERS);
        Due.is("no one touches", four.ways(0), 32);
        Due.is("four in a round by sparks", four.ways(1), 4);
        UnlikeRoofs square = Due.town("sort 3 4;sort 9 2;sort 1 1;house 0 0;house 1 0;house 1 1;house 0 1;");
        Due.is("a round of four, three sorts", square.ways(0), 18);
    }

    private static void must() {
        UnlikeRoofs x = Due.town("sort 3 4;sort 9 2;house 0 0;house 1 0;house 2 0;house 6 6;bound 1 0;");
        Due.is("beside a bound one", x.must(0, 0), 1);
        Due.is("bound itself", x.must(0, 1), 0);
        Due.is("beside it, too", x.must(0, 2), 1);
        Due.is("free", x.must(0, 3), -9);
        Due.is("no ways by sparks", x.must(1, 0), -9);
        Due.is("no ways by sparks, bound", x.must(1, 1), -9);
        Due.is("h -1", x.must(0, -1), -1);
        Due.is("h 4", x.must(0, 4), -1);
        Due.is("sparks 2", x.must(2, 0), -1);
        Due.is("one sort only", Due.town("sort 3 4;house 0 0;").must(1, 0), 0);
        Due.is("no sorts", Due.town("house 0 0;").must(1, 0), -9);
        UnlikeRoofs three = Due.town("sort 3 4;sort 9 2;sort 1 1;house 0 0;house 1 0;house 2 0;bound 0 2;bound 2 0;");
        Due.is("between two bound ones", three.must(0, 1), 1);
    }

    private static void boundTowns() {
        UnlikeRoofs x = Due.town("sort 1 1;sort 9 2;house 0 0;house 1 0;house 3 0;bound 0 1;bound 2 1;");
        Due.is("bound ones are as bound", x.cheapest(0, -1), 19);
        Due.is("beside it", x.cheapest(0, 1), 0);
        Due.is("one way", x.ways(0), 1);
        Due.is("by sparks as well", x.ways(1), 1);
        x.roof(0, -9);
        Due.is("bound without a roof", x.cheapest(0, -1), 19);
        UnlikeRoofs y = Due.town("sort 1 1;sort 9 2;house 0 0;house 1 0;bound 0 1;bound 1 1;");
        Due.is("bound unlawfully", y.cheapest(0, -1), -9);
        Due.is("bound unlawfully: ways", y.ways(0), 0);
        Due.is("bound unlawfully: must", y.must(0, 0), -9);
    }

    private static void wideTown() {
        UnlikeRoofs x = Due.town("sort 9 1;sort 8 1;sort 7 1;sort 6 1;house 0 0;house 3 0;house 6 0;house 0 3;"
            + "house 3 3;house 6 3;house 0 6;house 3 6;");
        Due.is("all ways", x.ways(1), 65536);
        Due.is("all cheap", x.cheapest(1, -1), 48);
        Due.is("all cheap: house 7", x.cheapest(1, 7), 3);
        Due.is("all free", x.must(1, 7), -9);
    }
}
