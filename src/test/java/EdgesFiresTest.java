/** Promises 13 to 19, and section 3, at their edges, a sentence a test: FIRES, WORST, MEAN, SEEN, BEGAN. */
public final class EdgesFiresTest {
    /** Houses 0 and 1 can burn; 2 has BURN 0, 3 no ROOF. */
    private static final String MIXED = "sort 3 2;sort 8 0;house 0 0;house 1 0;house 2 0;house 3 0;roof 0 0;roof 1 0;"
        + "roof 2 1;";

    public static void main(String[] args) {
        begins();
        burnsUntil();
        minuteByMinute();
        setsOnFire();
        throwsSparks();
        catchesMinute();
        lost();
        lasts();
        catchesAnswers();
        catchesBad();
        catchesState();
        fireAnswers();
        fireBad();
        fireState();
        worstHouse();
        worstNone();
        meanOfThoseThatBurn();
        meanLeastTerms();
        meanBad();
        meanNothingBurns();
        seenAtMost();
        sawMinutes();
        sawAnswers();
        sawBad();
        sawFull();
        forgets();
        beganFits();
        beganBits();
        Due.finish();
    }

    // Promises 13 and 14: A FIRE begins at minute 0 in a house whose ROOF BURNS (its SORT has BURN above 0).
    private static void begins() {
        UnlikeRoofs x = Due.town("sort 5 0;sort 5 1;house 0 0;roof 0 1;");
        Due.is("burn 1: minute 0", x.catches(0, 0), 0);
        Due.is("burn 1: one burns", x.fire(0, 0), 1);
        x.roof(0, 0);
        Due.is("burn 0: catches", x.catches(0, 0), -2);
        Due.is("burn 0: fire", x.fire(0, 0), -2);
        x.roof(0, -9);
        Due.is("no roof: catches", x.catches(0, 0), -2);
        Due.is("no roof: fire", x.fire(0, 0), -2);
    }

    // Promise 14: A house on FIRE from minute t burns until minute t and BURN (then it is burnt).
    private static void burnsUntil() {
        for (int burn = 1; burn <= 9; burn++) {
            UnlikeRoofs x = Due.town("sort 5 " + burn + ";house 0 0;house 1 0;house 2 0;roof 0 0;roof 1 0;");
            Due.is("burn " + burn + ": until the second is burnt", x.fire(0, 2), 1 + burn);
            x.roof(1, -9);
            Due.is("burn " + burn + ": alone", x.fire(0, 2), burn);
        }
    }

    // Promises 13 and 14: In each minute m (1, 2, ..) each house that burns (on FIRE since m less 1 at least, t and
    // BURN above m less 1)
    private static void minuteByMinute() {
        for (int burn = 1; burn <= 9; burn += 4) {
            UnlikeRoofs x = Due.town("sort 5 " + burn + ";" + Edge.ROW + Edge.ALL_ALIKE);
            for (int h = 0; h < 8; h++) {
                Due.is("burn " + burn + ": from the end, house " + h, x.catches(0, h), h);
                Due.is("burn " + burn + ": from the middle, house " + h, x.catches(3, h), Math.abs(h - 3));
            }
        }
    }

    // Promises 13 and 14: sets on FIRE each other one that is not, has not been, with a ROOF of the same SORT, that
    // TOUCHES it,
    private static void setsOnFire() {
        UnlikeRoofs x = Due.town("sort 5 1;sort 5 1;house 0 0;house 1 0;house 2 0;house 1 1;house 0 1;house 3 1;"
            + "roof 0 0;roof 1 0;roof 2 0;roof 3 1;roof 5 0;");
        int[] due = {0, 1, 2, -9, -9, -9};
        for (int h = 0; h < due.length; h++) {
            Due.is("same sort, touching: house " + h, x.catches(0, h), due[h]);
        }
        // With BURN 1 the first is burnt when the second burns: it is not set on FIRE again.
        Due.is("what was burnt stays so", x.fire(1, 2), 2);
        Due.is("and counts once", x.fire(1, 0), 3);
        // A round of eight: it is reached from both sides, in minute 4 at last.
        UnlikeRoofs round = Due.town("sort 5 1;house 0 0;house 1 0;house 2 0;house 2 1;house 2 2;house 1 2;"
            + "house 0 2;house 0 1;" + Edge.ALL_ALIKE);
        int[] minutes = {0, 1, 2, 3, 4, 3, 2, 1};
        for (int h = 0; h < minutes.length; h++) {
            Due.is("round: house " + h, round.catches(0, h), minutes[h]);
        }
        Due.is("round: lasts", round.fire(0, 2), 5);
        Due.is("round: how many", round.fire(0, 0), 8);
    }

    // Promises 13 and 14: or to which it throws SPARKS in the WIND (whatever lies between): since minute m.
    private static void throwsSparks() {
        UnlikeRoofs x = Due.town("sort 5 1;sort 5 0;" + Edge.ROW + Edge.ALL_ALIKE);
        int[] right = {0, 1, 1, 2, 2, 3, 3, 4};
        x.wind(1);
        for (int h = 0; h < 8; h++) {
            Due.is("all alike, wind right: house " + h, x.catches(0, h), right[h]);
        }
        x.roof(1, 1);
        x.roof(3, -9);
        Due.is("over one that does not burn", x.catches(0, 2), 1);
        Due.is("over one without a roof", x.catches(0, 4), 2);
        Due.is("not to one that does not burn", x.catches(0, 1), -9);
        Due.is("not to one without a roof", x.catches(0, 3), -9);
        x.wind(3);
        Due.is("not against the wind", x.catches(0, 2), -9);
        Due.is("with it", x.catches(2, 0), 1);
        x.wind(0);
        Due.is("not without wind", x.catches(2, 0), -9);
        UnlikeRoofs gap = Due.town("sort 5 1;house 0 0;house 2 0;house 5 0;house 0 2;house 0 5;roof 0 0;roof 1 0;"
            + "roof 2 0;roof 3 0;roof 4 0;");
        int[][] due = {{0, -9, -9, -9, -9}, {0, 1, -9, -9, -9}, {0, -9, -9, 1, -9}};
        for (int w = 0; w <= 2; w++) {
            gap.wind(w);
            for (int h = 0; h < 5; h++) {
                Due.is("over a gap of one, wind " + w + ": house " + h, gap.catches(0, h), due[w][h]);
            }
        }
        UnlikeRoofs other = Due.town("sort 5 1;sort 5 1;house 0 0;house 2 0;roof 0 0;roof 1 1;wind right;");
        Due.is("not to another sort", other.catches(0, 1), -9);
    }

    // Promise 13: CATCHES: the minute from which on a house is on FIRE; NONE.
    private static void catchesMinute() {
        UnlikeRoofs x = Due.town("sort 5 9;" + Edge.ROW + Edge.ALL_ALIKE);
        Due.is("the first minute", x.catches(7, 7), 0);
        Due.is("the last minute", x.catches(7, 0), 7);
        x.roof(3, -9);
        Due.is("ahead of the gap", x.catches(7, 4), 3);
        Due.is("in the gap", x.catches(7, 3), -9);
        Due.is("behind the gap", x.catches(7, 2), -9);
    }

    // Promise 14: LOST: how many burn; the PRICES of their ROOFS, added.
    private static void lost() {
        UnlikeRoofs x = Due.town("sort 99 9;" + Edge.ROW + Edge.ALL_ALIKE);
        Due.is("all", x.fire(4, 0), 8);
        Due.is("all of the dearest", x.fire(4, 1), 792);
        x.roof(1, -9);
        x.roof(3, -9);
        Due.is("six are left, one alone", x.fire(0, 0), 1);
        Due.is("its price", x.fire(0, 1), 99);
        Due.is("four in a row", x.fire(4, 0), 4);
        Due.is("their prices", x.fire(4, 1), 396);
        Due.is("the least price", Due.town("sort 1 1;house 0 0;roof 0 0;").fire(0, 1), 1);
    }

    // Promise 14: LASTS: the minute from which on nothing burns.
    private static void lasts() {
        Due.is("the least", Due.town("sort 1 1;house 0 0;roof 0 0;").fire(0, 2), 1);
        UnlikeRoofs x = Due.town("sort 1 9;" + Edge.ROW + Edge.ALL_ALIKE);
        Due.is("the most", x.fire(0, 2), 16);
        Due.is("from the middle", x.fire(4, 2), 13);
        x.wind(1);
        Due.is("with the wind", x.fire(0, 2), 13);
        Due.is("against it", x.fire(7, 2), 16);
    }

    // Promise 13: CATCHES of house h in a FIRE that begins in a house; NONE.
    private static void catchesAnswers() {
        UnlikeRoofs x = Due.town(MIXED);
        Due.is("itself", x.catches(1, 1), 0);
        Due.is("its neighbour", x.catches(1, 0), 1);
        Due.is("one that does not burn", x.catches(1, 2), -9);
        Due.is("one without a roof", x.catches(1, 3), -9);
    }

    // Promise 13: BAD;
    private static void catchesBad() {
        UnlikeRoofs x = Due.town(MIXED);
        for (int none : Edge.noneOf(4)) {
            Due.is("from " + none, x.catches(none, 0), -1);
            Due.is("house " + none, x.catches(0, none), -1);
            Due.is("BAD ahead of STATE: house " + none, x.catches(3, none), -1);
        }
        Due.is("the first", x.catches(0, 0), 0);
        Due.is("the last", x.catches(0, 3), -9);
        Due.is("none at all", new UnlikeRoofs().catches(0, 0), -1);
    }

    // Promise 13: STATE: it can not burn.
    private static void catchesState() {
        UnlikeRoofs x = Due.town(MIXED);
        for (int h = 0; h < 4; h++) {
            Due.is("burn 0: house " + h, x.catches(2, h), -2);
            Due.is("no roof: house " + h, x.catches(3, h), -2);
        }
        x.roof(3, 0);
        Due.is("with a roof it can", x.catches(3, 3), 0);
        Due.is("where the other can not is no matter", x.catches(0, 2), -9);
    }

    // Promise 14: A FIRE: how many burn (what = 0), PRICES LOST (1), LASTS (2).
    private static void fireAnswers() {
        UnlikeRoofs x = Due.town(MIXED);
        Due.is("how many", x.fire(1, 0), 2);
        Due.is("prices lost", x.fire(1, 1), 6);
        Due.is("lasts", x.fire(1, 2), 3);
    }

    // Promise 14: BAD;
    private static void fireBad() {
        UnlikeRoofs x = Due.town(MIXED);
        for (int what : Edge.noneOf(3)) {
            Due.is("what " + what, x.fire(0, what), -1);
            Due.is("BAD ahead of STATE: what " + what, x.fire(2, what), -1);
        }
        for (int from : Edge.noneOf(4)) {
            Due.is("from " + from, x.fire(from, 0), -1);
        }
        Due.is("what 0", x.fire(0, 0), 2);
        Due.is("what 2", x.fire(0, 2), 3);
        Due.is("none at all", new UnlikeRoofs().fire(0, 0), -1);
    }

    // Promise 14: STATE: it can not burn.
    private static void fireState() {
        UnlikeRoofs x = Due.town(MIXED);
        for (int what = 0; what <= 2; what++) {
            Due.is("burn 0: what " + what, x.fire(2, what), -2);
            Due.is("no roof: what " + what, x.fire(3, what), -2);
        }
        x.roof(2, 0);
        Due.is("with another roof it can", x.fire(2, 0), 3);
    }

    // Promise 15: WORST: the house in which a FIRE would cost most (PRICES LOST), of several the least;
    private static void worstHouse() {
        UnlikeRoofs x = Due.town("sort 3 1;sort 6 1;sort 7 1;sort 99 0;" + Edge.ROW
            + "roof 0 3;roof 1 0;roof 2 0;roof 4 1;roof 6 3;");
        Due.is("6 and 6: the least house", x.worst(), 1);
        x.roof(6, 2);
        Due.is("7 is more than 6", x.worst(), 6);
        x.roof(3, 0);
        Due.is("9 is more than 7", x.worst(), 1);
        x.roof(0, 0);
        Due.is("12, from house 0 on", x.worst(), 0);
        // How dear it is counts, not how many burn.
        UnlikeRoofs y = Due.town("sort 3 1;sort 10 1;house 0 0;house 1 0;house 2 0;house 5 5;roof 0 0;roof 1 0;"
            + "roof 2 0;roof 3 1;");
        Due.is("10 is more than three times 3", y.worst(), 3);
        UnlikeRoofs windy = Due.town("sort 3 1;house 0 0;house 2 0;house 4 0;roof 0 0;roof 1 0;roof 2 0;wind left;");
        Due.is("with the wind", windy.worst(), 2);
        windy.wind(2);
        Due.is("all alike: the least", windy.worst(), 0);
    }

    // Promise 15: WORST; NONE: nothing can burn.
    private static void worstNone() {
        UnlikeRoofs x = Due.town("sort 99 0;sort 1 1;house 0 0;house 7 7;roof 0 0;");
        Due.is("burn 0 and no roof", x.worst(), -9);
        x.roof(1, 1);
        Due.is("one can", x.worst(), 1);
        x.roof(1, 0);
        Due.is("none can again", x.worst(), -9);
        Due.is("no houses", new UnlikeRoofs().worst(), -9);
    }

    // Promise 16: MEAN: of all houses that can burn the mean of PRICES LOST: a fraction.
    private static void meanOfThoseThatBurn() {
        UnlikeRoofs x = Due.town(MIXED + "house 5 5;sort 7 1;roof 4 2;");
        // 6 and 6 and 7 of three, not of five.
        Due.is("upper", x.mean(0), 19);
        Due.is("lower", x.mean(1), 3);
        x.roof(2, 0);
        // 9, 9, 9 and 7 of four.
        Due.is("upper: one more", x.mean(0), 17);
        Due.is("lower: one more", x.mean(1), 2);
        UnlikeRoofs windy = Due.town("sort 3 1;house 0 0;house 2 0;roof 0 0;roof 1 0;wind right;");
        // 6 and 3.
        Due.is("windy: upper", windy.mean(0), 9);
        Due.is("windy: lower", windy.mean(1), 2);
    }

    // Promise 16: MEAN: upper (what = 0), lower number (1), in least terms.
    private static void meanLeastTerms() {
        UnlikeRoofs x = Due.town("sort 99 1;sort 1 1;sort 2 1;sort 3 1;" + Edge.ROW + Edge.ALL_ALIKE);
        Due.is("8 times 792 of 8: upper", x.mean(0), 792);
        Due.is("8 times 792 of 8: lower", x.mean(1), 1);
        UnlikeRoofs y = Due.town("sort 1 1;sort 2 1;sort 5 1;house 0 0;house 3 0;house 6 0;house 0 3;house 3 3;"
            + "house 6 3;roof 0 0;roof 1 0;roof 2 0;roof 3 0;roof 4 1;roof 5 1;");
        Due.is("8 of 6: upper", y.mean(0), 4);
        Due.is("8 of 6: lower", y.mean(1), 3);
        y.roof(5, 2);
        Due.is("11 of 6: upper", y.mean(0), 11);
        Due.is("11 of 6: lower", y.mean(1), 6);
        y.roof(5, 0);
        y.roof(4, 0);
        Due.is("6 of 6: upper", y.mean(0), 1);
        Due.is("6 of 6: lower", y.mean(1), 1);
        y.roof(5, 1);
        y.roof(4, 1);
        y.roof(3, 1);
        Due.is("9 of 6: upper", y.mean(0), 3);
        Due.is("9 of 6: lower", y.mean(1), 2);
    }

    // Promise 16: NO: BAD,
    private static void meanBad() {
        UnlikeRoofs x = Due.town(MIXED);
        for (int what : Edge.noneOf(2)) {
            Due.is("what " + what, x.mean(what), Edge.NO);
        }
        Due.is("what 0", x.mean(0), 6);
        Due.is("what 1", x.mean(1), 1);
    }

    // Promise 16: or nothing can burn.
    private static void meanNothingBurns() {
        UnlikeRoofs x = Due.town("sort 5 0;sort 5 1;house 0 0;house 1 0;roof 0 0;");
        Due.is("upper", x.mean(0), Edge.NO);
        Due.is("lower", x.mean(1), Edge.NO);
        x.roof(1, 1);
        Due.is("one can: upper", x.mean(0), 5);
        Due.is("one can: lower", x.mean(1), 1);
        Due.is("no houses: upper", new UnlikeRoofs().mean(0), Edge.NO);
        Due.is("no houses: lower", new UnlikeRoofs().mean(1), Edge.NO);
    }

    // Promises 17 and 28: BEGAN: SEEN (8 at most):
    private static void seenAtMost() {
        UnlikeRoofs x = Due.town("sort 5 1;house 0 0;roof 0 0;");
        for (int i = 1; i <= 8; i++) {
            // Each counts, also what was seen before.
            Due.is("seen " + i, x.saw(0, 0), i);
        }
        Due.is("a ninth", x.saw(0, 0), -3);
        Due.is("eight", x.count(4), 8);
        Due.is("all eight are so", x.began(), 1);
        UnlikeRoofs y = Due.town("sort 5 1;house 0 0;roof 0 0;");
        for (int i = 1; i <= 7; i++) {
            y.saw(0, 0);
        }
        y.saw(0, 1);
        Due.is("the eighth is not so", y.began(), 0);
    }

    // Promises 17 and 19: a house was on FIRE first at a minute (0 .. 99), or never (NONE):
    private static void sawMinutes() {
        UnlikeRoofs x = Due.town("sort 5 1;" + Edge.ROW + Edge.ALL_ALIKE);
        Due.is("minute -1", x.saw(7, -1), -1);
        Due.is("minute 0", x.saw(7, 0), 1);
        Due.is("at minute 0: itself", x.began(), 128);
        x.forget();
        Due.is("minute 7", x.saw(7, 7), 1);
        Due.is("at minute 7: the far end", x.began(), 1);
        x.forget();
        Due.is("minute 99", x.saw(7, 99), 1);
        Due.is("at minute 99: no house", x.began(), 0);
        Due.is("minute 100", x.saw(7, 100), -1);
        x.forget();
        x.roof(3, -9);
        Due.is("never", x.saw(7, -9), 1);
        Due.is("never: those on the other side of a gap", x.began(), 7);
        x.saw(2, 1);
        Due.is("its neighbour", x.began(), 2);
        x.saw(1, 1);
        Due.is("both can't be neighbours of 0 and 2", x.began(), 0);
    }

    // Promise 17: SEEN (minute NONE: never): how much there is.
    private static void sawAnswers() {
        UnlikeRoofs x = Due.town("sort 5 1;house 0 0;house 1 0;roof 0 0;");
        Due.is("first: never", x.saw(0, -9), 1);
        Due.is("second", x.saw(1, 0), 2);
        Due.is("the same again", x.saw(1, 0), 3);
        Due.is("how much", x.count(4), 3);
    }

    // Promise 17: BAD;
    private static void sawBad() {
        UnlikeRoofs x = Due.town("sort 5 1;house 0 0;house 1 0;roof 0 0;");
        for (int h : Edge.noneOf(2)) {
            Due.is("house " + h, x.saw(h, 0), -1);
            Due.is("house " + h + " never", x.saw(h, -9), -1);
        }
        for (int minute : new int[] {-1, -8, -10, 100, Edge.LEAST, Edge.GREATEST}) {
            Due.is("minute " + minute, x.saw(0, minute), -1);
        }
        Due.is("nothing was seen", x.count(4), 0);
        Due.is("house 1, minute 99", x.saw(1, 99), 1);
        Due.is("house 0, minute 0", x.saw(0, 0), 2);
        Due.is("none at all", new UnlikeRoofs().saw(0, 0), -1);
    }

    // Promise 17: FULL.
    private static void sawFull() {
        UnlikeRoofs x = Due.town("sort 5 1;house 0 0;roof 0 0;");
        for (int i = 1; i <= 7; i++) {
            x.saw(0, 0);
        }
        Due.is("the eighth", x.saw(0, 0), 8);
        Due.is("the ninth", x.saw(0, 0), -3);
        Due.is("a ninth never", x.saw(0, -9), -3);
        Due.is("BAD ahead of FULL: house", x.saw(1, 0), -1);
        Due.is("BAD ahead of FULL: minute", x.saw(0, 100), -1);
        Due.is("nothing changed", x.count(4), 8);
        Due.is("all that was seen is so still", x.began(), 1);
        x.forget();
        Due.is("there is room again", x.saw(0, 0), 1);
    }

    // Promise 18: Nothing was SEEN: how much there was.
    private static void forgets() {
        UnlikeRoofs x = Due.town("sort 5 1;house 0 0;roof 0 0;");
        Due.is("nothing", x.forget(), 0);
        x.saw(0, 5);
        Due.is("it is not so", x.began(), 0);
        Due.is("one", x.forget(), 1);
        Due.is("nothing is left", x.count(4), 0);
        Due.is("nothing holds", x.began(), 1);
        for (int i = 1; i <= 8; i++) {
            x.saw(0, 5);
        }
        Due.is("all", x.forget(), 8);
        Due.is("nothing again", x.forget(), 0);
        Due.is("of no houses", new UnlikeRoofs().forget(), 0);
    }

    // Promise 19: all houses in which a FIRE would make all that was SEEN so: bits.
    private static void beganFits() {
        UnlikeRoofs x = Due.town(MIXED + "house 5 5;roof 4 0;");
        Due.is("nothing seen: all that can burn", x.began(), 1 | 2 | 16);
        x.saw(2, -9);
        Due.is("one never that can't burn", x.began(), 1 | 2 | 16);
        x.saw(1, 1);
        Due.is("its neighbour at 1", x.began(), 1);
        x.saw(0, 0);
        Due.is("itself at 0", x.began(), 1);
        x.saw(4, -9);
        Due.is("another never", x.began(), 1);
        x.saw(4, 1);
        Due.is("never and at 1", x.began(), 0);
        x.forget();
        x.saw(1, 2);
        Due.is("a minute too late", x.began(), 0);
        x.forget();
        x.saw(1, 0);
        Due.is("a minute too early for its neighbour", x.began(), 2);
        x.forget();
        x.saw(3, 0);
        Due.is("where no roof is nothing began", x.began(), 0);
        x.roof(3, 0);
        Due.is("with a roof it did", x.began(), 8);
    }

    // Promise 19: BEGAN, as bits.
    private static void beganBits() {
        UnlikeRoofs x = Due.town("sort 5 1;" + Edge.ROW + Edge.ALL_ALIKE);
        Due.is("all eight", x.began(), 255);
        x.saw(0, 7);
        Due.is("the eighth", x.began(), 128);
        x.forget();
        x.saw(3, 2);
        Due.is("two of them", x.began(), 2 | 32);
        Due.is("none that can", Due.town("sort 5 0;house 0 0;roof 0 0;").began(), 0);
        Due.is("no houses", new UnlikeRoofs().began(), 0);
    }
}
