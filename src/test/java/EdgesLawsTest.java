/** Promises 9 to 12, and section 2, at their edges, a sentence a test: BREACHES, CHEAPEST, WAYS, BOUND by law. */
public final class EdgesLawsTest {

    public static void main(String[] args) {
        lawOfTouch();
        lawOfSparks();
        lawOfNoRoof();
        breachesArePairs();
        breachesSparks();
        breachesBad();
        cheapestRoofs();
        cheapestFirst();
        cheapestNone();
        cheapestAnswers();
        cheapestBad();
        waysHowMany();
        waysAnswers();
        waysBad();
        mustWhich();
        mustNone();
        mustBad();
        Due.finish();
    }

    // Promises 9, 10, 11 and 12: LAWFUL: no two houses that TOUCH have ROOFS of one SORT;
    private static void lawOfTouch() {
        String[] near = {"house 3 2;", "house 3 4;", "house 2 3;", "house 4 3;"};
        for (String other : near) {
            UnlikeRoofs x = Due.town("sort 5 1;sort 5 1;house 3 3;" + other + "roof 0 0;roof 1 0;");
            Due.is("alike: 3 3 " + other, x.breaches(0), 1);
            Due.is("ways: 3 3 " + other, x.ways(0), 2);
            x.roof(1, 1);
            // Of one PRICE and one BURN, but of two SORTS.
            Due.is("unlike: 3 3 " + other, x.breaches(0), 0);
        }
        String[] off = {"house 2 2;", "house 4 4;", "house 2 4;", "house 4 2;", "house 5 3;", "house 3 1;"};
        for (String other : off) {
            UnlikeRoofs x = Due.town("sort 5 1;sort 5 1;house 3 3;" + other + "roof 0 0;roof 1 0;");
            Due.is("alike: 3 3 " + other, x.breaches(0), 0);
            Due.is("ways: 3 3 " + other, x.ways(0), 4);
        }
    }

    // Promises 9, 10, 11 and 12: by SPARKS (sparks 1), nor any two of which one can throw them to the other in some
    // WIND 1 .. 4 (two cells off in a row).
    private static void lawOfSparks() {
        String[] near = {"house 3 1;", "house 3 5;", "house 1 3;", "house 5 3;"};
        for (String other : near) {
            UnlikeRoofs x = Due.town("sort 5 1;sort 5 1;house 3 3;" + other + "roof 0 0;roof 1 0;");
            Due.is("sparks 1: 3 3 " + other, x.breaches(1), 1);
            Due.is("sparks 0: 3 3 " + other, x.breaches(0), 0);
            Due.is("ways, sparks 1: 3 3 " + other, x.ways(1), 2);
            Due.is("ways, sparks 0: 3 3 " + other, x.ways(0), 4);
            x.wind(2);
            Due.is("in whatever wind: 3 3 " + other, x.breaches(1), 1);
        }
        String[] off = {"house 3 0;", "house 3 6;", "house 0 3;", "house 6 3;", "house 4 4;", "house 5 5;",
            "house 1 1;", "house 4 5;", "house 5 2;", "house 2 1;"};
        for (String other : off) {
            UnlikeRoofs x = Due.town("sort 5 1;sort 5 1;house 3 3;" + other + "roof 0 0;roof 1 0;");
            Due.is("sparks 1: 3 3 " + other, x.breaches(1), 0);
            Due.is("ways, sparks 1: 3 3 " + other, x.ways(1), 4);
        }
        UnlikeRoofs rim = Due.town("sort 5 1;house 6 0;house 0 0;house 0 1;house 0 6;roof 0 0;roof 1 0;roof 3 0;");
        Due.is("nothing is near over the rim", rim.breaches(1), 0);
        UnlikeRoofs over = Due.town("sort 5 1;sort 5 1;house 3 3;house 4 3;house 5 3;roof 0 0;roof 1 1;roof 2 0;");
        Due.is("whatever lies between", over.breaches(1), 1);
    }

    // Promise 9: (Without a ROOF a house is like none.)
    private static void lawOfNoRoof() {
        UnlikeRoofs x = Due.town("sort 5 1;house 0 0;house 1 0;house 2 0;");
        Due.is("none has one", x.breaches(1), 0);
        x.roof(0, 0);
        Due.is("one has one", x.breaches(1), 0);
        x.roof(2, 0);
        Due.is("two off, between them none", x.breaches(0), 0);
        Due.is("sparks fly over one without", x.breaches(1), 1);
        x.roof(1, 0);
        Due.is("all have one", x.breaches(0), 2);
        UnlikeRoofs bound = Due.town("sort 5 1;house 0 0;house 1 0;bound 0 0;bound 1 0;");
        Due.is("bound, both have one", bound.breaches(0), 1);
        bound.roof(0, -9);
        Due.is("bound, one has none", bound.breaches(0), 0);
    }

    // Promise 9: BREACHES: pairs that are so.
    private static void breachesArePairs() {
        StringBuilder roofs = new StringBuilder();
        for (int h = 0; h < 8; h++) {
            roofs.append("roof ").append(h).append(" 0;");
        }
        UnlikeRoofs x = Due.town("sort 5 1;" + Edge.BLOCK + roofs);
        Due.is("ten that touch", x.breaches(0), 10);
        Due.is("and four by sparks", x.breaches(1), 14);
        Due.is("none", Due.town("sort 5 1;" + Edge.WIDE + roofs).breaches(1), 0);
        Due.is("a pair once", Due.town("sort 5 1;house 0 0;house 0 1;roof 0 0;roof 1 0;").breaches(0), 1);
        Due.is("no houses", new UnlikeRoofs().breaches(1), 0);
    }

    // Promise 9: BREACHES (sparks 0, 1).
    private static void breachesSparks() {
        UnlikeRoofs x = Due.town("sort 5 1;house 0 0;house 1 0;house 2 0;roof 0 0;roof 1 0;roof 2 0;");
        Due.is("sparks 0", x.breaches(0), 2);
        Due.is("sparks 1", x.breaches(1), 3);
    }

    // Promise 9: BAD.
    private static void breachesBad() {
        UnlikeRoofs x = Due.town("sort 5 1;house 0 0;house 1 0;roof 0 0;roof 1 0;");
        for (int sparks : Edge.noFlags()) {
            Due.is("breaches " + sparks, x.breaches(sparks), -1);
            Due.is("breaches of nothing " + sparks, new UnlikeRoofs().breaches(sparks), -1);
        }
        Due.is("breaches 0", x.breaches(0), 1);
        Due.is("breaches 1", x.breaches(1), 1);
    }

    // Promise 10: CHEAPEST: ROOFS for all houses (BOUND ones as BOUND) that are LAWFUL, of the least PRICES, added;
    private static void cheapestRoofs() {
        Due.is("eight of the dearest", Due.town("sort 99 0;" + Edge.WIDE).cheapest(1, -1), 792);
        Due.is("no house", Due.town("sort 99 0;").cheapest(1, -1), 0);
        UnlikeRoofs x = Due.town("sort 1 0;sort 9 0;sort 99 0;house 0 0;house 1 0;house 7 7;bound 0 2;");
        Due.is("a bound one is as bound", x.cheapest(0, 0), 2);
        Due.is("99 and 1 and 1", x.cheapest(0, -1), 101);
        x.roof(0, -9);
        Due.is("also where its roof is off", x.cheapest(0, -1), 101);
        x.roof(1, 1);
        x.roof(2, 1);
        Due.is("roofs that are do not bind", x.cheapest(0, -1), 101);
        // The middle one of five dear, so that four are cheap: 9 and 4, not 1 and 36.
        UnlikeRoofs star = Due.town("sort 1 0;sort 9 0;house 3 3;house 2 3;house 4 3;house 3 2;house 3 4;");
        Due.is("a star", star.cheapest(0, -1), 13);
        Due.is("its middle", star.cheapest(0, 0), 1);
    }

    // Promise 10: of several the first by the SORT of house 0, then 1, ..;
    private static void cheapestFirst() {
        UnlikeRoofs x = Due.town("sort 5 0;sort 5 0;sort 5 0;house 0 0;house 1 0;house 2 0;house 7 7;");
        int[] touching = {0, 1, 0, 0};
        int[] sparks = {0, 1, 2, 0};
        for (int h = 0; h < 4; h++) {
            Due.is("all dear alike: house " + h, x.cheapest(0, h), touching[h]);
            Due.is("all dear alike, sparks: house " + h, x.cheapest(1, h), sparks[h]);
        }
        UnlikeRoofs y = Due.town("sort 6 0;sort 5 0;sort 5 0;house 1 0;house 0 0;house 7 7;");
        int[] cheap = {1, 2, 1};
        for (int h = 0; h < 3; h++) {
            Due.is("of the cheap ones: house " + h, y.cheapest(0, h), cheap[h]);
        }
        // 1 and 9 cost what 9 and 1 do: house 0 has the lower sort, though it is the dear one.
        UnlikeRoofs z = Due.town("sort 9 0;sort 1 0;house 0 0;house 1 0;");
        Due.is("house 0 is first", z.cheapest(0, 0), 0);
        Due.is("house 1 behind it", z.cheapest(0, 1), 1);
    }

    // Promise 10: then 1, ..; NONE.
    private static void cheapestNone() {
        String three = "house 0 0;house 1 0;house 2 0;";
        UnlikeRoofs two = Due.town("sort 1 0;sort 2 0;" + three);
        Due.is("two sorts, touching: a row there is", two.cheapest(0, -1), 4);
        Due.is("two sorts, sparks: none", two.cheapest(1, -1), -9);
        Due.is("two sorts, sparks: none for house 0", two.cheapest(1, 0), -9);
        Due.is("no sorts", Due.town(three).cheapest(0, -1), -9);
        Due.is("no sorts, no houses", new UnlikeRoofs().cheapest(0, -1), 0);
        UnlikeRoofs bound = Due.town("sort 1 0;sort 2 0;house 0 0;house 1 0;bound 0 0;bound 1 0;");
        Due.is("bound against the law", bound.cheapest(0, -1), -9);
    }

    // Promise 10: CHEAPEST: PRICES (h = -1), the SORT of house h; NONE.
    private static void cheapestAnswers() {
        UnlikeRoofs x = Due.town("sort 9 0;sort 2 0;" + Edge.WIDE);
        Due.is("prices", x.cheapest(1, -1), 16);
        Due.is("house 0", x.cheapest(1, 0), 1);
        Due.is("house 7", x.cheapest(1, 7), 1);
        UnlikeRoofs bad = Due.town("sort 9 0;house 0 0;house 1 0;");
        Due.is("none: prices", bad.cheapest(0, -1), -9);
        Due.is("none: house 1", bad.cheapest(0, 1), -9);
    }

    // Promise 10: BAD.
    private static void cheapestBad() {
        UnlikeRoofs x = Due.town("sort 9 0;sort 2 0;house 0 0;house 1 0;");
        for (int sparks : Edge.noFlags()) {
            Due.is("sparks " + sparks, x.cheapest(sparks, -1), -1);
            Due.is("sparks " + sparks + ", house 0", x.cheapest(sparks, 0), -1);
        }
        for (int h : new int[] {-2, -9, 2, Edge.LEAST, Edge.GREATEST}) {
            Due.is("house " + h, x.cheapest(0, h), -1);
            Due.is("house " + h + " of a town without a row", Due.town("house 0 0;").cheapest(0, h), -1);
        }
        Due.is("house 1", x.cheapest(0, 1), 1);
        Due.is("house -1", x.cheapest(0, -1), 11);
        Due.is("house 0 of none", new UnlikeRoofs().cheapest(0, 0), -1);
    }

    // Promise 11: WAYS: how many LAWFUL ones there are.
    private static void waysHowMany() {
        String four = "sort 1 0;sort 1 0;sort 1 0;sort 1 0;";
        Due.is("the most", Due.town(four + Edge.WIDE).ways(1), 65536);
        Due.is("two rows of four", Due.town(four + Edge.BLOCK).ways(0), 4116);
        Due.is("one short of three", Due.town("sort 1 0;sort 1 0;house 0 0;house 1 0;house 2 0;").ways(1), 0);
        Due.is("three of three", Due.town("sort 1 0;sort 1 0;sort 1 0;house 0 0;house 1 0;house 2 0;").ways(1), 6);
        Due.is("a bound one has one", Due.town(four + Edge.WIDE + "bound 7 3;").ways(1), 16384);
        UnlikeRoofs all = Due.town("sort 1 0;sort 1 0;house 0 0;house 1 0;bound 0 0;bound 1 1;");
        Due.is("all bound", all.ways(1), 1);
        all.roof(0, -9);
        Due.is("all bound, without a roof", all.ways(1), 1);
        Due.is("a bound one takes a sort from its neighbour",
            Due.town(four + "house 0 0;house 1 0;house 2 0;bound 2 1;").ways(0), 9);
    }

    // Promise 11: WAYS.
    private static void waysAnswers() {
        Due.is("no houses, no sorts: the empty row", new UnlikeRoofs().ways(0), 1);
        Due.is("no houses", Due.town("sort 1 0;").ways(1), 1);
        Due.is("no sorts", Due.town("house 0 0;").ways(0), 0);
        Due.is("one house, one sort", Due.town("sort 1 0;house 0 0;").ways(0), 1);
        UnlikeRoofs x = Due.town("sort 1 0;sort 1 0;house 0 0;house 1 0;roof 0 0;roof 1 0;");
        Due.is("roofs that are do not bind", x.ways(0), 2);
    }

    // Promise 11: BAD.
    private static void waysBad() {
        UnlikeRoofs x = Due.town("sort 1 0;sort 1 0;house 0 0;house 2 0;");
        for (int sparks : Edge.noFlags()) {
            Due.is("ways " + sparks, x.ways(sparks), -1);
        }
        Due.is("ways 0", x.ways(0), 4);
        Due.is("ways 1", x.ways(1), 2);
    }

    // Promise 12: BOUND by law: a house has the same SORT in all of these: which; NONE.
    private static void mustWhich() {
        UnlikeRoofs x = Due.town("sort 9 0;sort 9 0;sort 1 0;house 0 0;house 1 0;house 2 0;house 7 7;bound 0 0;"
            + "bound 2 1;");
        Due.is("bound: itself", x.must(0, 0), 0);
        Due.is("what two leave", x.must(0, 1), 2);
        Due.is("bound, too", x.must(0, 2), 1);
        Due.is("free", x.must(0, 3), -9);
        // All LAWFUL ones, not the cheapest alone: two SORTS are left for it.
        UnlikeRoofs y = Due.town("sort 9 0;sort 5 0;sort 1 0;house 0 0;house 1 0;bound 0 0;");
        Due.is("two are left", y.must(0, 1), -9);
        Due.is("the last house of eight", Due.town("sort 5 0;" + Edge.WIDE).must(1, 7), 0);
        // Nothing beside it is bound, but two sorts go round.
        UnlikeRoofs row = Due.town("sort 5 0;sort 5 0;house 0 0;house 1 0;house 2 0;house 3 0;bound 3 0;");
        Due.is("three off", row.must(0, 0), 1);
        row.roof(0, 0);
        Due.is("whatever its roof is", row.must(0, 0), 1);
    }

    // Promise 12: BOUND by law; NONE (no WAYS, too).
    private static void mustNone() {
        UnlikeRoofs x = Due.town("sort 5 0;sort 5 0;house 0 0;house 1 0;house 2 0;bound 1 0;");
        Due.is("there are ways", x.must(0, 1), 0);
        Due.is("beside it", x.must(0, 2), 1);
        Due.is("no ways by sparks", x.must(1, 1), -9);
        Due.is("no ways by sparks, beside it", x.must(1, 2), -9);
        Due.is("no sorts", Due.town("house 0 0;").must(0, 0), -9);
        Due.is("one sort", Due.town("sort 5 0;house 0 0;").must(0, 0), 0);
        Due.is("two sorts", Due.town("sort 5 0;sort 5 0;house 0 0;").must(0, 0), -9);
    }

    // Promise 12: BAD.
    private static void mustBad() {
        UnlikeRoofs x = Due.town("sort 5 0;house 0 0;house 3 0;");
        for (int sparks : Edge.noFlags()) {
            Due.is("sparks " + sparks, x.must(sparks, 0), -1);
        }
        for (int h : Edge.noneOf(2)) {
            Due.is("house " + h, x.must(0, h), -1);
            Due.is("house " + h + " of a town without a way", Due.town("house 0 0;").must(0, h), -1);
        }
        Due.is("house 0", x.must(0, 0), 0);
        Due.is("house 1", x.must(1, 1), 0);
        Due.is("house 0 of none", new UnlikeRoofs().must(0, 0), -1);
    }
}
