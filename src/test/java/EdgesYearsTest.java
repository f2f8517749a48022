/** Promises 23 and 24, and what section 4 says of them, at their edges, a sentence a test: YEARS and THE LOT. */
public final class EdgesYearsTest {
    /** Lots whose first DRAW leaves 0, 1, .. 7 over by 8. */
    private static final int[] LOT_OF_HOUSE = {0, 4, 8, 3, 2, 11, 1, 5};
    /** Lots whose first DRAW leaves 0, 0, 0, 0, 0, 1, 1, 1, 1, 1 over by 2, the second 0, 1, 2, 3, 4, .. by 5. */
    private static final int[] LOT_OF_WIND = {6, 0, 2, 9, 22, 5, 12, 3, 38, 4};

    public static void main(String[] args) {
        yearsAtMost();
        lotGoesOn();
        drawFromZeroOn();
        houseByDraw();
        ifItCan();
        windByDraw();
        twoDraws();
        allOfOneSort();
        saved();
        townStays();
        yearsAnswers();
        yearsBad();
        yearsNoHouses();
        lotBecomes();
        Due.finish();
    }

    private static int after(UnlikeRoofs x, int lot, int n, int s) {
        x.lot(lot);
        return x.years(n, s);
    }

    // Promise 23: YEARS: n (1 .. 99) FIRES by THE LOT
    private static void yearsAtMost() {
        UnlikeRoofs x = Due.town("sort 99 1;" + Edge.BLOCK);
        Due.is("0", x.years(0, 0), Edge.NO);
        Due.is("1: one fire of eight", x.years(1, 0), 792);
        Due.is("2", x.years(2, 0), 2 * 792);
        Due.is("99", x.years(99, 0), 99 * 792);
        Due.is("100", x.years(100, 0), Edge.NO);
    }

    // Promises 23 and 24: (it goes on, times 1103515245 and 12345, wrapped;
    private static void lotGoesOn() {
        UnlikeRoofs x = Due.town("sort 99 1;" + Edge.BLOCK);
        int[] lots = {1, 0, -1, Edge.GREATEST, Edge.LEAST};
        // Two DRAWS on, and 198.
        int[] year = {-1770082073, -740551042, 288979989, -1858503659, 1406932606};
        int[] years = {1482877891, -508809014, 1794471377, -353012271, 1638674634};
        for (int i = 0; i < lots.length; i++) {
            x.lot(lots[i]);
            x.years(1, 0);
            Due.is("a year from " + lots[i], x.lot(lots[i]), year[i]);
            x.years(99, 0);
            Due.is("99 years from " + lots[i], x.lot(0), years[i]);
            x.lot(year[i]);
            x.years(98, 0);
            Due.is("98 years from a year on " + lots[i], x.lot(0), years[i]);
        }
        UnlikeRoofs first = Due.town("sort 99 1;house 0 0;");
        first.years(1, 0);
        Due.is("the first lot is 1", first.lot(0), -1770082073);
    }

    // Promise 23: DRAW: its upper 16 bits, as a number from 0 on):
    private static void drawFromZeroOn() {
        // First DRAWS of 0, 32767, 32768, 65535 leave 0, 1, 2, 0 over by 3.
        UnlikeRoofs x = Due.town("sort 1 1;sort 10 1;sort 30 1;house 0 0;house 3 0;house 6 0;roof 0 0;roof 1 1;"
            + "roof 2 2;");
        int[] lots = {-59267453, -1861048701, 2088216195, 286434947};
        int[] due = {0, -9, -29, 0};
        for (int i = 0; i < lots.length; i++) {
            Due.is("first draw, lot " + lots[i], after(x, lots[i], 1, 0), due[i]);
        }
        // Second DRAWS of 32767, 32768, 65535 leave 2, 3, 0 over by 5; the first are of house 0, 1, 0.
        UnlikeRoofs across = Due.town("sort 1 1;house 3 3;house 5 3;");
        UnlikeRoofs below = Due.town("sort 1 1;house 3 3;house 3 5;");
        UnlikeRoofs above = Due.town("sort 1 1;house 3 5;house 3 3;");
        Due.is("second draw 32767: down", after(below, 1985517874, 1, 0), 2);
        Due.is("second draw 32767: not right", after(across, 1985517874, 1, 0), 1);
        Due.is("second draw 32768: left", after(across, 204577074, 1, 0), 2);
        Due.is("second draw 32768: not up", after(below, 204577074, 1, 0), 1);
        Due.is("second draw 65535: not right", after(across, -161965774, 1, 0), 1);
        Due.is("second draw 65535: not down", after(below, -161965774, 1, 0), 1);
        Due.is("second draw 65535: not up", after(above, -161965774, 1, 0), 1);
    }

    // Promise 23: in each the house by DRAW, left over by how many HOUSES,
    private static void houseByDraw() {
        for (int left = 0; left < 8; left++) {
            UnlikeRoofs x = Due.town("sort 5 1;sort 9 0;" + Edge.WIDE);
            for (int h = 0; h < 8; h++) {
                x.roof(h, 0);
                Due.is(left + " left over, house " + h, after(x, LOT_OF_HOUSE[left], 1, 1), h == left ? -5 : 0);
                x.roof(h, -9);
            }
        }
        // By 2 the lot 0 leaves 0, the lot 5 leaves 1; by 1 each leaves 0.
        UnlikeRoofs two = Due.town("sort 5 1;sort 9 0;house 0 0;house 7 7;roof 1 0;");
        Due.is("by two: house 0", after(two, 0, 1, 1), 0);
        Due.is("by two: house 1", after(two, 5, 1, 1), -5);
        UnlikeRoofs one = Due.town("sort 5 1;sort 9 0;house 7 7;roof 0 0;");
        Due.is("by one", after(one, 5, 99, 1), -99 * 5);
    }

    // Promise 23: burns (if it can),
    private static void ifItCan() {
        UnlikeRoofs x = Due.town("sort 5 1;sort 9 0;house 0 0;house 7 7;roof 0 0;roof 1 1;");
        Due.is("house 0 can", after(x, 0, 1, 1), -5);
        Due.is("house 1 can not", after(x, 5, 1, 1), 0);
        x.roof(0, -9);
        Due.is("without a roof it can not", after(x, 0, 1, 1), 0);
        Due.is("as all are it can", after(x, 0, 1, 0), 5);
        Due.is("as all are the other can, too", after(x, 5, 1, 0), 5);
    }

    // Promise 23: with WIND by a next DRAW, left over by 5
    private static void windByDraw() {
        String[] towns = {"house 3 3;house 5 3;", "house 3 3;house 3 5;", "house 5 3;house 3 3;",
            "house 3 5;house 3 3;"};
        for (int t = 0; t < towns.length; t++) {
            UnlikeRoofs x = Due.town("sort 5 1;" + towns[t] + "wind up;");
            for (int i = 0; i < LOT_OF_WIND.length; i++) {
                int w = i % 5;
                // House 1 lies right, down, left, up of house 0; house 0 on the other side of house 1.
                int toOther = i < 5 ? t + 1 : (t + 2) % 4 + 1;
                Due.is("house " + i / 5 + ", wind " + w + ", town " + towns[t], after(x, LOT_OF_WIND[i], 1, 0),
                    w == toOther ? 10 : 5);
            }
        }
        UnlikeRoofs calm = Due.town("sort 5 1;sort 9 0;house 3 3;house 5 3;roof 0 0;roof 1 0;wind right;");
        Due.is("no wind is drawn, whatever blows", after(calm, 6, 1, 1), -5);
        Due.is("wind right is drawn", after(calm, 0, 1, 1), -10);
    }

    // Promise 23: (two DRAWS for each, whether it can burn or not):
    private static void twoDraws() {
        UnlikeRoofs cold = Due.town("sort 5 0;sort 5 1;" + Edge.WIDE);
        UnlikeRoofs hot = Due.town("sort 5 1;" + Edge.WIDE + Edge.ALL_ALIKE);
        Due.is("nothing can burn", after(cold, 1, 1, 0), 0);
        Due.is("two draws on", cold.lot(0), -1770082073);
        Due.is("all can burn", after(hot, 1, 1, 0), 0);
        Due.is("two draws on, too", hot.lot(0), -1770082073);
        after(cold, 1, 99, 0);
        Due.is("198 draws on", cold.lot(0), 1482877891);
        after(hot, 1, 99, 0);
        Due.is("198 draws on, too", hot.lot(0), 1482877891);
    }

    // Promise 23: PRICES LOST of all these as THE TOWN is, and, with the same DRAWS, if all HOUSES had ROOFS of one
    // SORT (BOUND ones, too):
    private static void allOfOneSort() {
        UnlikeRoofs x = Due.town("sort 5 1;sort 7 1;sort 9 0;" + Edge.BLOCK + "bound 0 2;bound 7 1;roof 1 1;");
        Due.is("one that can't burn, all of 0", after(x, LOT_OF_HOUSE[0], 1, 0), 40);
        Due.is("one that can't burn, all of 1", after(x, LOT_OF_HOUSE[0], 1, 1), 56);
        Due.is("one that can't burn, all of 2", after(x, LOT_OF_HOUSE[0], 1, 2), 0);
        Due.is("one without a roof, all of 0", after(x, LOT_OF_HOUSE[6], 1, 0), 40);
        x.roof(6, 1);
        // As the town is, 6 and 7 burn.
        Due.is("two of seven, all of 0", after(x, LOT_OF_HOUSE[6], 1, 0), 40 - 14);
        Due.is("two of seven, all of 1", after(x, LOT_OF_HOUSE[6], 1, 1), 56 - 14);
        Due.is("two of seven, all of 2", after(x, LOT_OF_HOUSE[6], 1, 2), -14);
    }

    // Promise 23: SAVED: the latter less the former.
    private static void saved() {
        UnlikeRoofs bare = Due.town("sort 99 1;sort 1 0;" + Edge.BLOCK);
        Due.is("the most that can be saved", bare.years(99, 0), 78408);
        Due.is("nothing", bare.years(99, 1), 0);
        UnlikeRoofs full = Due.town("sort 99 1;sort 1 0;" + Edge.BLOCK + Edge.ALL_ALIKE);
        Due.is("the most that can be lost", full.years(99, 1), -78408);
        Due.is("what is alike on both sides", full.years(99, 0), 0);
    }

    // Promise 23: (THE TOWN and its WIND stay.)
    private static void townStays() {
        String town = "sort 99 1;sort 1 0;" + Edge.BLOCK + "bound 0 1;roof 3 0;wind left;";
        UnlikeRoofs x = Due.town(town);
        UnlikeRoofs y = Due.town(town);
        x.saw(3, 0);
        y.saw(3, 0);
        x.keep(0);
        y.keep(0);
        x.years(99, 0);
        x.years(1, 1);
        x.lot(1);
        Due.alike("behind years", x, y);
    }

    // Promise 23: YEARS, all ROOFS of a SORT: SAVED.
    private static void yearsAnswers() {
        UnlikeRoofs x = Due.town("sort 5 1;sort 7 1;sort 6 0;sort 8 1;house 0 0;roof 0 0;");
        int[] due = {0, 2, -5, 3};
        for (int s = 0; s < due.length; s++) {
            Due.is("all of " + s, x.years(1, s), due[s]);
            Due.is("all of " + s + ", 99 years", x.years(99, s), 99 * due[s]);
        }
    }

    // Promise 23: NO: BAD,
    private static void yearsBad() {
        UnlikeRoofs x = Due.town("sort 5 1;sort 7 1;house 0 0;");
        x.lot(77);
        for (int n : new int[] {0, -1, 100, Edge.LEAST, Edge.GREATEST}) {
            Due.is(n + " years", x.years(n, 0), Edge.NO);
        }
        for (int s : Edge.noneOf(2)) {
            Due.is("sort " + s, x.years(1, s), Edge.NO);
        }
        Due.is("nothing was drawn", x.lot(77), 77);
        Due.is("1 year", x.years(1, 0), 5);
        Due.is("99 years of the last sort", x.years(99, 1), 99 * 7);
        Due.is("no sorts", Due.town("house 0 0;").years(1, 0), Edge.NO);
    }

    // Promise 23: or no HOUSES.
    private static void yearsNoHouses() {
        UnlikeRoofs x = Due.town("sort 5 1;");
        Due.is("no houses", x.years(1, 0), Edge.NO);
        Due.is("nothing was drawn", x.lot(1), 1);
        Due.type(x, "sort 5 1;house 0 0;");
        x.town();
        Due.is("one house", x.years(1, 0), 5);
        Due.is("nothing at all", new UnlikeRoofs().years(99, 0), Edge.NO);
    }

    // Promise 24: THE LOT becomes v: what it was.
    private static void lotBecomes() {
        UnlikeRoofs x = new UnlikeRoofs();
        int[] lots = {0, -1, -9, Edge.NO, Edge.LEAST, Edge.GREATEST, 1};
        int was = 1;
        for (int v : lots) {
            Due.is("lot " + v, x.lot(v), was);
            was = v;
        }
        Due.is("the same again", x.lot(1), 1);
    }
}
