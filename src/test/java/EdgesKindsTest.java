/** Promises 25 to 27 and 29, and what holds of all calls, at their edges, a sentence a test: RATE, IMAGES, refusals. */
public final class EdgesKindsTest {
    /** House 0 has all neighbours, house 7 none; houses 1 and 7 have no ROOF. */
    private static final String TOWN = "sort 99 9;sort 1 0;house 3 3;house 2 3;house 4 3;house 3 2;house 3 4;"
        + "house 0 0;house 7 7;house 0 7;roof 0 0;roof 2 1;roof 5 1;wind up;";
    private static final int[] ADDED = {1, 11, 101, 1011, 10101, 100001};

    public static void main(String[] args) {
        kindsOverOneAnother();
        traceAddsEachOnce();
        roofKind();
        strawKind();
        slateKind();
        mossedKind();
        tarredKind();
        leadKind();
        rateAnswers();
        rateBad();
        traceAnswers();
        imagesKeep();
        readAnew();
        noNumber();
        refusedBad();
        refusedState();
        refusedFull();
        badIsFirst();
        keepAnswers();
        keepBad();
        backAnswers();
        backBad();
        backState();
        Due.finish();
    }

    /** RATE of that house, and what it added to THE TRACE. */
    private static void rates(UnlikeRoofs x, int kind, int h, int due) {
        long before = x.trace();
        Due.is("kind " + kind + ", house " + h, x.rate(kind, h), due);
        Due.is("trace of kind " + kind + ", house " + h, x.trace() - before, ADDED[kind]);
    }

    // Promise 25: KINDS of roofs are over one another: 0 ROOF; 1 STRAW, 2 SLATE, 5 LEAD (each under ROOF); 3 MOSSED
    // (under STRAW); 4 TARRED (under SLATE).
    private static void kindsOverOneAnother() {
        UnlikeRoofs x = Due.town(TOWN);
        int[] zero = {99, 108, 95, 216, 99, 99};
        int[] two = {1, 1, 0, 2, 4, -1};
        for (int kind = 0; kind <= 5; kind++) {
            rates(x, kind, 0, zero[kind]);
            rates(x, kind, 2, two[kind]);
        }
        Due.is("kind -1", x.rate(-1, 0), Edge.NO);
        Due.is("kind 6", x.rate(6, 0), Edge.NO);
    }

    // Promises 25 and 29: RATE of a house as if of a KIND (numbers in brackets are added to THE TRACE, 0 at first, as
    // often as rate() asks that body: each once; "up" is what the KIND above does):
    private static void traceAddsEachOnce() {
        UnlikeRoofs x = Due.town(TOWN);
        Due.is("0 at first", x.trace(), 0);
        long sum = 0;
        for (int kind = 5; kind >= 0; kind--) {
            x.rate(kind, 7);
            sum += ADDED[kind];
            Due.is("behind kind " + kind, x.trace(), sum);
        }
    }

    // Promise 25: ROOF its PRICE (0 without) (1).
    private static void roofKind() {
        UnlikeRoofs x = Due.town(TOWN);
        rates(x, 0, 0, 99);
        rates(x, 0, 2, 1);
        rates(x, 0, 1, 0);
        x.roof(0, -9);
        rates(x, 0, 0, 0);
    }

    // Promise 25: STRAW up, and BURN (0 without) (10).
    private static void strawKind() {
        UnlikeRoofs x = Due.town(TOWN);
        rates(x, 1, 0, 108);
        rates(x, 1, 2, 1);
        rates(x, 1, 1, 0);
        x.roof(0, -9);
        rates(x, 1, 0, 0);
    }

    // Promise 25: SLATE up less how many it TOUCHES (100).
    private static void slateKind() {
        UnlikeRoofs x = Due.town(TOWN);
        rates(x, 2, 0, 95);
        rates(x, 2, 5, 1);
        rates(x, 2, 7, 0);
        rates(x, 2, 1, -1);
        x.roof(0, -9);
        rates(x, 2, 0, -4);
    }

    // Promise 25: MOSSED twice up (1000).
    private static void mossedKind() {
        UnlikeRoofs x = Due.town(TOWN);
        rates(x, 3, 0, 216);
        rates(x, 3, 2, 2);
        rates(x, 3, 1, 0);
    }

    // Promise 25: TARRED up, and WIND (10000).
    private static void tarredKind() {
        UnlikeRoofs x = Due.town(TOWN);
        for (int w = 0; w <= 4; w++) {
            x.wind(w);
            rates(x, 4, 0, 95 + w);
            rates(x, 4, 1, -1 + w);
            rates(x, 4, 7, w);
        }
    }

    // Promise 25: LEAD up less its number (100000).
    private static void leadKind() {
        UnlikeRoofs x = Due.town(TOWN);
        rates(x, 5, 0, 99);
        rates(x, 5, 1, -1);
        rates(x, 5, 5, -4);
        rates(x, 5, 7, -7);
    }

    // Promise 25: RATE.
    private static void rateAnswers() {
        UnlikeRoofs x = Due.town(TOWN);
        int[] none = {0, 0, 0, 0, 4, -7};
        for (int kind = 0; kind <= 5; kind++) {
            Due.is("kind " + kind + ", the last house", x.rate(kind, 7), none[kind]);
        }
    }

    // Promise 25: NO: BAD.
    private static void rateBad() {
        UnlikeRoofs x = Due.town(TOWN);
        for (int kind : Edge.noneOf(6)) {
            Due.is("kind " + kind, x.rate(kind, 0), Edge.NO);
        }
        for (int h : Edge.noneOf(8)) {
            for (int kind = 0; kind <= 5; kind++) {
                Due.is("kind " + kind + ", house " + h, x.rate(kind, h), Edge.NO);
            }
        }
        Due.is("no house at all", new UnlikeRoofs().rate(0, 0), Edge.NO);
        Due.is("no trace of these", x.trace(), 0);
        Due.is("the first of all", x.rate(0, 0), 99);
        Due.is("the last of all", x.rate(5, 7), -7);
    }

    // Promise 29: THE TRACE.
    private static void traceAnswers() {
        UnlikeRoofs x = Due.town(TOWN);
        Due.is("at first", x.trace(), 0);
        Due.is("asking for it leaves none", x.trace(), 0);
        for (int i = 0; i < 480; i++) {
            x.rate(5, i % 8);
        }
        Due.is("a long one", x.trace(), 48000480);
        x.rate(6, 0);
        Due.is("a refusal leaves none", x.trace(), 48000480);
        Due.is("each object has its own", new UnlikeRoofs().trace(), 0);
    }

    // Promises 26 and 27: IMAGES 0, 1 keep ROOFS, WIND, THE LOT, what was SEEN; nothing else.
    private static void imagesKeep() {
        UnlikeRoofs x = Due.town("sort 5 1;sort 6 1;house 0 0;house 1 0;bound 0 0;roof 1 0;wind down;");
        x.lot(Edge.LEAST);
        x.saw(1, 1);
        x.rate(0, 0);
        Due.is("keep 0", x.keep(0), 1);
        x.roof(0, -9);
        x.roof(1, 1);
        x.wind(0);
        x.lot(-1);
        x.forget();
        x.saw(1, 0);
        x.saw(0, -9);
        x.rate(0, 0);
        Due.is("keep 1", x.keep(1), 2);
        x.forget();
        x.saw(0, 99);
        x.saw(1, 99);
        Due.type(x, "wind up;");
        x.rate(0, 0);
        Due.is("back 0", x.back(0), 1);
        Due.is("0: a roof that was taken off", x.house(0, 2), 0);
        Due.is("0: a roof that was another", x.house(1, 2), 0);
        Due.is("0: house 1 was seen at 1", x.began(), 1);
        Due.is("0: the lot", x.lot(7), Edge.LEAST);
        Due.is("0: the wind", x.wind(1), 2);
        Due.is("0: not the text", x.count(5), 8);
        Due.is("0: not the trace", x.trace(), 3);
        Due.is("back 1", x.back(1), 2);
        Due.is("1: no roof", x.house(0, 2), -9);
        Due.is("1: another roof", x.house(1, 2), 1);
        Due.is("1: house 1 was seen at 0, house 0 never", x.began(), 2);
        Due.is("1: the lot", x.lot(7), -1);
        Due.is("1: the wind", x.wind(1), 0);
        Due.is("1: bound still", x.house(0, 3), 0);
        x.roof(0, 0);
        x.saw(0, 0);
        Due.is("0 again", x.back(0), 1);
        Due.is("0 again: what was seen", x.began(), 1);
    }

    // Promises 4, 27 and 29: (Read anew: nothing SEEN, IMAGES are gone; THE LOT stays; THE TRACE goes on, as behind
    // back().)
    private static void readAnew() {
        for (String text : new String[] {"", " ", "wind left;", "sort 5 1;house 0 0;roof 0 0;"}) {
            UnlikeRoofs x = Due.town(TOWN);
            x.saw(0, 0);
            x.keep(0);
            x.keep(1);
            x.lot(77);
            x.rate(5, 0);
            x.back(1);
            Due.is("the trace goes on behind back", x.trace(), 100001);
            x.lot(77);
            Due.type(x, text);
            Due.is("'" + text + "' is read", x.town() >= 0 ? 1 : 0, 1);
            Due.is("'" + text + "': nothing seen", x.count(4), 0);
            Due.is("'" + text + "': nothing to forget", x.forget(), 0);
            Due.is("'" + text + "': image 0", x.back(0), -2);
            Due.is("'" + text + "': image 1", x.back(1), -2);
            Due.is("'" + text + "': lot", x.lot(0), 77);
            Due.is("'" + text + "': trace", x.trace(), 100001);
            x.keep(0);
            Due.is("'" + text + "': an image again", x.back(0), 0);
            Due.is("'" + text + "': still no other", x.back(1), -2);
        }
        UnlikeRoofs fault = Due.town(TOWN);
        fault.saw(0, 0);
        fault.keep(0);
        Due.type(fault, "wind;");
        Due.is("a fault", fault.town(), -14);
        Due.is("then it is not read anew: seen", fault.count(4), 1);
        Due.is("then it is not read anew: image", fault.back(0), 1);
    }

    // Promises 16, 21, 23 and 25: `NO = -1000000`: What none is, where a number may be below 0.
    private static void noNumber() {
        Due.is("NO", UnlikeRoofs.NO, -1000000);
        Due.is("BAD", UnlikeRoofs.BAD, -1);
        Due.is("STATE", UnlikeRoofs.STATE, -2);
        Due.is("FULL", UnlikeRoofs.FULL, -3);
        Due.is("NONE", UnlikeRoofs.NONE, -9);
        UnlikeRoofs x = Due.town("sort 1 0;sort 3 0;sort 5 1;sort 19 0;house 0 0;house 1 0;roof 0 0;roof 1 1;");
        Due.is("-1 is paid", x.pays(0), -1);
        x.roof(1, 2);
        Due.is("-2 is paid", x.pays(0), -2);
        x.roof(1, 3);
        Due.is("-9 is paid", x.pays(0), -9);
        Due.is("nobody pays", x.pays(2), Edge.NO);
        x.roof(0, -9);
        Due.is("-1 is the rate", x.rate(2, 0), -1);
        Due.is("no rate", x.rate(2, 2), Edge.NO);
        x.roof(0, 2);
        x.lot(0);
        Due.is("-5 is saved", x.years(1, 0), -5);
        Due.is("no years", x.years(0, 0), Edge.NO);
        Due.is("no mean", x.mean(2), Edge.NO);
    }

    /** House 0 is BOUND to 0, house 1 to 1, which does not burn, house 7 has no ROOF; all is full, image 1 is not. */
    private static UnlikeRoofs full() {
        UnlikeRoofs x = Due.town("sort 9 9;sort 8 0;house 0 0;house 1 0;house 2 0;house 3 0;house 4 0;house 5 0;"
            + "house 6 0;house 7 0;bound 0 0;bound 1 1;roof 2 0;roof 3 1;roof 4 0;roof 5 1;roof 6 0;wind up;");
        for (int i = 0; i < 8; i++) {
            x.saw(0, 0);
        }
        x.lot(77);
        x.rate(4, 3);
        x.keep(0);
        x.roof(6, 1);
        x.wind(1);
        Due.type(x, "wind down;" + " ".repeat(290));
        return x;
    }

    private static int askBad(UnlikeRoofs x, int i) {
        return switch (i) {
            case 0 -> x.type(0, 0);
            case 1 -> x.type(0, 9);
            case 2 -> x.house(8, 0);
            case 3 -> x.house(0, 5);
            case 4 -> x.sort(2, 0);
            case 5 -> x.sort(0, 2);
            case 6 -> x.roof(8, 0);
            case 7 -> x.roof(2, 2);
            case 8 -> x.roof(2, -1);
            case 9 -> x.wind(5);
            case 10 -> x.wind(-1);
            case 11 -> x.breaches(2);
            case 12 -> x.cheapest(2, -1);
            case 13 -> x.cheapest(0, 8);
            case 14 -> x.ways(2);
            case 15 -> x.must(2, 0);
            case 16 -> x.must(0, 8);
            case 17 -> x.catches(8, 0);
            case 18 -> x.catches(0, 8);
            case 19 -> x.fire(8, 0);
            case 20 -> x.fire(0, 3);
            case 21 -> x.saw(8, 0);
            case 22 -> x.saw(0, 100);
            case 23 -> x.change(8, 0, 0, -1);
            case 24 -> x.change(2, 2, 0, -1);
            case 25 -> x.change(2, 0, 2, -1);
            case 26 -> x.change(2, 0, 0, 8);
            case 27 -> x.order(0, 2, 0);
            case 28 -> x.order(0, 0, -1);
            case 29 -> x.keep(2);
            case 30 -> x.keep(-1);
            case 31 -> x.back(2);
            case 32 -> x.back(-1);
            default -> x.count(6);
        };
    }

    private static int askForNoNumber(UnlikeRoofs x, int i) {
        return switch (i) {
            case 0 -> x.mean(2);
            case 1 -> x.pays(8);
            case 2 -> x.years(0, 0);
            case 3 -> x.years(100, 0);
            case 4 -> x.years(1, 2);
            case 5 -> x.rate(6, 0);
            default -> x.rate(0, 8);
        };
    }

    // Promises 2, 5 to 14, 16, 17 and 20 to 28: Refused, and nothing changes, the first of these: BAD (a number is not
    // as told, or there is no such thing),
    private static void refusedBad() {
        for (int i = 0; i <= 33; i++) {
            UnlikeRoofs x = full();
            Due.is("BAD " + i, askBad(x, i), -1);
            Due.alike("behind BAD " + i, x, full());
        }
        for (int i = 0; i <= 6; i++) {
            UnlikeRoofs x = full();
            Due.is("NO " + i, askForNoNumber(x, i), Edge.NO);
            Due.alike("behind NO " + i, x, full());
        }
    }

    // Promises 7, 13, 14, 20 and 27: STATE (as told),
    private static void refusedState() {
        for (int i = 0; i <= 5; i++) {
            UnlikeRoofs x = full();
            int answer = switch (i) {
                case 0 -> x.roof(0, 1);
                case 1 -> x.catches(1, 0);
                case 2 -> x.fire(7, 0);
                case 3 -> x.change(0, 1, 0, -1);
                case 4 -> x.change(2, 0, 0, -1);
                default -> x.back(1);
            };
            Due.is("STATE " + i, answer, -2);
            Due.alike("behind STATE " + i, x, full());
        }
    }

    // Promises 2 and 17: STATE (as told), FULL.
    private static void refusedFull() {
        UnlikeRoofs typed = full();
        Due.is("type", typed.type(';', 1), -3);
        Due.alike("behind FULL of type", typed, full());
        UnlikeRoofs seen = full();
        Due.is("saw", seen.saw(1, 0), -3);
        Due.alike("behind FULL of saw", seen, full());
    }

    // Promises 2, 7, 13, 14, 17, 20 and 27: the first of these: BAD
    private static void badIsFirst() {
        UnlikeRoofs x = full();
        Due.is("BAD ahead of FULL: type", x.type(0, 9), -1);
        Due.is("FULL: type", x.type(0, 8), -3);
        Due.is("BAD ahead of FULL: saw a house", x.saw(8, 0), -1);
        Due.is("BAD ahead of FULL: saw a minute", x.saw(7, 100), -1);
        Due.is("FULL: saw", x.saw(7, 99), -3);
        Due.is("BAD ahead of STATE: roof", x.roof(0, 2), -1);
        Due.is("STATE: roof", x.roof(0, 1), -2);
        Due.is("BAD ahead of STATE: catches", x.catches(1, 8), -1);
        Due.is("STATE: catches", x.catches(1, 7), -2);
        Due.is("BAD ahead of STATE: fire", x.fire(1, 3), -1);
        Due.is("STATE: fire", x.fire(1, 2), -2);
        Due.is("BAD ahead of STATE: change to a sort", x.change(0, 2, 0, -1), -1);
        Due.is("BAD ahead of STATE: change by sparks", x.change(0, 1, 2, -1), -1);
        Due.is("BAD ahead of STATE: change, a house then", x.change(0, 1, 0, 8), -1);
        Due.is("STATE: change", x.change(0, 1, 1, 7), -2);
        Due.is("BAD ahead of STATE: back", x.back(2), -1);
        Due.is("STATE: back", x.back(1), -2);
    }

    // Promise 26: An IMAGE is kept: how much was SEEN.
    private static void keepAnswers() {
        UnlikeRoofs x = Due.town(TOWN);
        Due.is("nothing was seen", x.keep(0), 0);
        for (int i = 1; i <= 8; i++) {
            x.saw(0, 0);
            Due.is("seen: " + i, x.keep(i % 2), i);
        }
        x.roof(0, 1);
        Due.is("kept anew", x.keep(0), 8);
        x.roof(0, -9);
        Due.is("back: the later one", x.back(0), 8);
        Due.is("back: its roof", x.house(0, 2), 1);
        Due.is("back: the other image is not of it", x.back(1), 7);
        Due.is("back: its roof, too", x.house(0, 2), 0);
        Due.is("of no houses", new UnlikeRoofs().keep(1), 0);
    }

    // Promise 26: BAD.
    private static void keepBad() {
        UnlikeRoofs x = Due.town(TOWN);
        for (int image : Edge.noneOf(2)) {
            Due.is("image " + image, x.keep(image), -1);
        }
        Due.is("none was kept: 0", x.back(0), -2);
        Due.is("none was kept: 1", x.back(1), -2);
        Due.is("image 0", x.keep(0), 0);
        Due.is("image 1", x.keep(1), 0);
    }

    // Promise 27: All of that becomes as an IMAGE has it: how much was SEEN.
    private static void backAnswers() {
        UnlikeRoofs x = Due.town(TOWN);
        x.keep(0);
        for (int i = 1; i <= 8; i++) {
            x.saw(0, 0);
        }
        x.keep(1);
        Due.is("nothing was seen", x.back(0), 0);
        Due.is("so it is", x.count(4), 0);
        Due.is("there is room again", x.saw(0, 1), 1);
        Due.is("eight were seen", x.back(1), 8);
        Due.is("so they are", x.count(4), 8);
        Due.is("there is no room", x.saw(0, 0), -3);
        Due.is("it can be gone back to again", x.back(0), 0);
        Due.is("what was seen since is not in it", x.began(), 1);
    }

    // Promise 27: BAD;
    private static void backBad() {
        UnlikeRoofs x = Due.town(TOWN);
        x.keep(0);
        x.keep(1);
        for (int image : Edge.noneOf(2)) {
            Due.is("image " + image, x.back(image), -1);
            Due.is("image " + image + " where none was kept", new UnlikeRoofs().back(image), -1);
        }
        Due.is("image 0", x.back(0), 0);
        Due.is("image 1", x.back(1), 0);
    }

    // Promise 27: STATE: none was kept.
    private static void backState() {
        UnlikeRoofs x = Due.town(TOWN);
        Due.is("none: 0", x.back(0), -2);
        Due.is("none: 1", x.back(1), -2);
        x.keep(1);
        Due.is("still none: 0", x.back(0), -2);
        Due.is("one: 1", x.back(1), 0);
        x.keep(0);
        Due.is("one: 0", x.back(0), 0);
        x.town();
        Due.is("read anew: 0", x.back(0), -2);
        Due.is("read anew: 1", x.back(1), -2);
    }
}
