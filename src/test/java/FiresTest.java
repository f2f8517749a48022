/** Promises 13 to 19: fires, the worst and the mean of them, where one began. */
public final class FiresTest {
    /** A row of five alike with a gap, one that does not burn beside it. */
    private static final String ROW = "sort 4 3;sort 7 0;sort 5 1;house 0 0;house 1 0;house 3 0;house 4 0;house 1 1;"
        + "house 1 2;roof 0 0;roof 1 0;roof 2 0;roof 3 0;roof 4 1;roof 5 0;";

    public static void main(String[] args) {
        catches();
        sparks();
        fire();
        worst();
        mean();
        saw();
        began();
        eightHouses();
        Due.finish();
    }

    private static void catches() {
        UnlikeRoofs x = Due.town(ROW);
        int[] due = {0, 1, -9, -9, -9, -9};
        for (int h = 0; h < due.length; h++) {
            Due.is("calm: catches 0 " + h, x.catches(0, h), due[h]);
        }
        Due.is("can not burn", x.catches(4, 0), -2);
        Due.is("from -1", x.catches(-1, 0), -1);
        Due.is("from 6", x.catches(6, 0), -1);
        Due.is("h -1", x.catches(0, -1), -1);
        Due.is("h 6", x.catches(0, 6), -1);
        Due.is("BAD is ahead of STATE", x.catches(4, 6), -1);
        x.roof(0, -9);
        Due.is("no roof can not burn", x.catches(0, 0), -2);
        Due.is("no roof does not catch", x.catches(1, 0), -9);
    }

    private static void sparks() {
        UnlikeRoofs x = Due.town(ROW);
        int[][] due = {{0, 1, -9, -9, -9, -9}, {0, 1, 2, 3, -9, -9}, {0, 1, -9, -9, -9, 2}, {0, 1, -9, -9, -9, -9},
            {0, 1, -9, -9, -9, -9}};
        for (int w = 0; w <= 4; w++) {
            x.wind(w);
            for (int h = 0; h < 6; h++) {
                Due.is("wind " + w + ": catches 0 " + h, x.catches(0, h), due[w][h]);
            }
        }
        x.wind(3);
        Due.is("left over the gap", x.catches(3, 1), 2);
        x.wind(4);
        Due.is("up over a roof that does not burn", x.catches(5, 0), 2);
        x.wind(1);
        x.roof(2, 2);
        Due.is("sparks do not light another sort", x.catches(1, 2), -9);
    }

    private static void fire() {
        UnlikeRoofs x = Due.town(ROW + "wind right;");
        Due.is("how many", x.fire(0, 0), 4);
        Due.is("prices", x.fire(0, 1), 16);
        Due.is("lasts 3 and 3", x.fire(0, 2), 6);
        Due.is("one house", x.fire(5, 0), 1);
        Due.is("one house: prices", x.fire(5, 1), 4);
        Due.is("one house: lasts", x.fire(5, 2), 3);
        Due.is("can not burn", x.fire(4, 0), -2);
        Due.is("what 3", x.fire(0, 3), -1);
        Due.is("what -1", x.fire(0, -1), -1);
        Due.is("house 6", x.fire(6, 0), -1);
        Due.is("house -1", x.fire(-1, 0), -1);
        Due.is("BAD is ahead of STATE", x.fire(4, 3), -1);
        x.roof(5, -9);
        Due.is("no roof", x.fire(5, 0), -2);
        UnlikeRoofs brief = Due.town("sort 1 1;house 0 0;house 0 1;house 0 2;house 0 3;roof 0 0;roof 1 0;roof 2 0;"
            + "roof 3 0;");
        Due.is("a minute is enough to go on", brief.fire(0, 0), 4);
        Due.is("lasts until the last is burnt", brief.fire(0, 2), 4);
        Due.is("from the middle", brief.fire(1, 2), 3);
    }

    private static void worst() {
        UnlikeRoofs x = Due.town("sort 4 3;sort 7 1;sort 99 0;house 0 0;house 1 0;house 3 3;house 5 5;house 6 5;"
            + "roof 0 0;roof 1 0;roof 2 1;roof 3 2;");
        Due.is("8 is more than 7 and the first", x.worst(), 0);
        x.roof(0, 2);
        Due.is("7 is more than 4", x.worst(), 2);
        x.roof(4, 1);
        Due.is("the least of two", x.worst(), 2);
        x.roof(3, 1);
        Due.is("14", x.worst(), 3);
        Due.is("nothing", new UnlikeRoofs().worst(), -9);
        Due.is("nothing that burns", Due.town("sort 9 0;house 1 1;house 2 1;roof 0 0;").worst(), -9);
        Due.is("a price of 1", Due.town("sort 1 1;house 1 1;roof 0 0;").worst(), 0);
        UnlikeRoofs windy = Due.town("sort 4 3;house 0 0;house 2 0;roof 0 0;roof 1 0;wind left;");
        Due.is("with the wind", windy.worst(), 1);
        windy.wind(1);
        Due.is("with another wind", windy.worst(), 0);
    }

    private static void mean() {
        UnlikeRoofs x = Due.town("sort 4 3;sort 7 1;sort 99 0;house 0 0;house 1 0;house 3 3;house 5 5;house 6 5;"
            + "roof 0 0;roof 1 0;roof 2 1;roof 3 2;");
        Due.is("8 8 7: upper", x.mean(0), 23);
        Due.is("8 8 7: lower", x.mean(1), 3);
        x.roof(2, -9);
        Due.is("16 / 2", x.mean(0), 8);
        Due.is("16 / 2: lower", x.mean(1), 1);
        x.roof(2, 0);
        Due.is("20 / 3", x.mean(0), 20);
        x.roof(1, 1);
        Due.is("4 7 4", x.mean(0), 5);
        Due.is("4 7 4: lower", x.mean(1), 1);
        x.roof(1, -9);
        x.roof(4, 1);
        Due.is("4 4 7", x.mean(0), 5);
        Due.is("what 2", x.mean(2), -1000000);
        Due.is("what -1", x.mean(-1), -1000000);
        Due.is("nothing", new UnlikeRoofs().mean(0), -1000000);
        Due.is("nothing that burns", Due.town("sort 9 0;house 1 1;roof 0 0;").mean(1), -1000000);
        UnlikeRoofs four = Due.town("sort 3 1;sort 1 1;house 0 0;house 3 0;house 6 0;house 0 3;roof 0 0;roof 1 1;"
            + "roof 2 1;roof 3 1;");
        Due.is("6 / 4: upper", four.mean(0), 3);
        Due.is("6 / 4: lower", four.mean(1), 2);
    }

    private static void saw() {
        UnlikeRoofs x = Due.town(ROW);
        Due.is("house 6", x.saw(6, 0), -1);
        Due.is("house -1", x.saw(-1, 0), -1);
        Due.is("minute -1", x.saw(0, -1), -1);
        Due.is("minute 100", x.saw(0, 100), -1);
        Due.is("minute NONE", x.saw(0, -9), 1);
        Due.is("minute 0", x.saw(0, 0), 2);
        Due.is("minute 99", x.saw(0, 99), 3);
        for (int i = 4; i <= 8; i++) {
            Due.is("seen " + i, x.saw(5, 1), i);
        }
        Due.is("ninth", x.saw(0, 1), -3);
        Due.is("BAD is ahead of FULL", x.saw(6, 1), -1);
        Due.is("count", x.count(4), 8);
        Due.is("forget", x.forget(), 8);
        Due.is("forget twice", x.forget(), 0);
        Due.is("count behind", x.count(4), 0);
        Due.is("seen anew", x.saw(1, 1), 1);
    }

    private static void began() {
        UnlikeRoofs x = Due.town(ROW + "wind right;");
        Due.is("all that can burn", x.began(), 47);
        x.saw(3, 3);
        Due.is("the far end at 3", x.began(), 1);
        x.forget();
        x.saw(1, 1);
        Due.is("beside it", x.began(), 1);
        x.wind(3);
        Due.is("beside it, wind left", x.began(), 1 | 4);
        x.saw(3, -9);
        Due.is("and one never", x.began(), 1);
        x.saw(5, -9);
        Due.is("and another never", x.began(), 1);
        x.saw(1, 2);
        Due.is("two minutes for one house", x.began(), 0);
        x.forget();
        x.saw(4, -9);
        Due.is("one that never burns", x.began(), 47);
        x.saw(4, 0);
        Due.is("one that can't", x.began(), 0);
        x.forget();
        x.saw(0, 0);
        Due.is("at minute 0", x.began(), 1);
        x.roof(0, -9);
        Due.is("no roof", x.began(), 0);
        Due.is("no houses", new UnlikeRoofs().began(), 0);
    }

    /** A snake of eight: the last catches in minute 7. */
    private static void eightHouses() {
        UnlikeRoofs x = Due.town("sort 2 9;house 0 0;house 1 0;house 2 0;house 3 0;house 3 1;house 3 2;house 2 2;"
            + "house 1 2;roof 0 0;roof 1 0;roof 2 0;roof 3 0;roof 4 0;roof 5 0;roof 6 0;roof 7 0;");
        Due.is("the last", x.catches(0, 7), 7);
        Due.is("the first", x.catches(7, 0), 7);
        Due.is("all", x.fire(0, 0), 8);
        Due.is("lasts", x.fire(0, 2), 16);
        Due.is("lasts from the middle", x.fire(3, 2), 13);
        Due.is("worst", x.worst(), 0);
        Due.is("mean", x.mean(0), 16);
        Due.is("mean", x.mean(1), 1);
        Due.is("began", x.began(), 255);
        x.saw(7, 7);
        Due.is("began", x.began(), 1);
        Due.is("breaches", x.breaches(0), 7);
        Due.is("breaches by sparks", x.breaches(1), 13);
        Due.is("pays", x.pays(7), 0);
        Due.is("no order", x.order(0, 0, 0), -9);
        Due.is("pairs", x.count(3), 7);
        Due.is("roofs", x.count(2), 8);
        x.wind(3);
        Due.is("left over one", x.catches(3, 1), 1);
        Due.is("left over one, on and on", x.catches(3, 0), 2);
        Due.is("left does not go right", x.catches(7, 5), 2);
    }
}
