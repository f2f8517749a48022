/** Promises 1 to 4 at their edges, a sentence of the document a test: a new object, THE TEXT and its FAULTS. */
public final class EdgesTextTest {
    private static final String FOUR_SORTS = "sort 1 1;sort 2 1;sort 3 1;sort 4 1;";
    /** Two SORTS, two HOUSES: what ROOFS need. */
    private static final String BARE = "sort 1 1;sort 2 1;house 0 0;house 1 0;";

    public static void main(String[] args) {
        calls512();
        newObject();
        typeLowestBytes();
        typeBad();
        typeFull();
        bytesAtMost();
        clearEmpties();
        townTellsAll();
        townLeavesNothing();
        townFault();
        blanks();
        blanksNeeded();
        noItems();
        itemsEnded();
        sortItem();
        houseItem();
        roofItem();
        boundItem();
        windItem();
        numbersThatWereTold();
        tokens();
        firstFault();
        fifthSort();
        ninthHouse();
        houseOnHouse();
        roofOfBound();
        boundTwice();
        windTwice();
        numberBeyond();
        byteThatBeginsNone();
        wordThatIsNone();
        numberAbove99();
        zeroAhead();
        tooEarly();
        Due.finish();
    }

    // Promises 1 to 29: An object is used for at most 512 calls after it has been made;
    private static void calls512() {
        UnlikeRoofs x = Due.town("sort 9 9;sort 9 9;sort 9 9;sort 9 9;house 0 0;house 1 0;house 2 0;house 3 0;"
            + "house 0 1;house 1 1;house 2 1;house 3 1;");
        int typed = 14;
        for (int call = typed + 2; call <= 509; call++) {
            x.rate(5, 7);
        }
        Due.is("call 510", x.trace(), (509 - typed - 1) * 100001L);
        // By house: 0 1 2 0, below them 1 0 3 1.
        Due.is("call 511", x.cheapest(1, 7), 1);
        Due.is("call 512", x.ways(0), 4L * 3 * 7 * 7 * 7);
        UnlikeRoofs y = new UnlikeRoofs();
        for (int call = 1; call <= 511; call++) {
            y.type(' ', 1);
        }
        Due.is("call 512, FULL since long", y.type(' ', 1), -3);
    }

    // Promise 1: As told; no HOUSES, no SORTS; THE LOT is 1.
    private static void newObject() {
        UnlikeRoofs x = new UnlikeRoofs();
        for (int what = 0; what <= 5; what++) {
            Due.is("new: count " + what, x.count(what), 0);
        }
        Due.is("new: house 0", x.house(0, 0), -1);
        Due.is("new: sort 0", x.sort(0, 0), -1);
        Due.is("new: trace", x.trace(), 0);
        Due.is("new: wind", x.wind(0), 0);
        Due.is("new: back 0", x.back(0), -2);
        Due.is("new: back 1", x.back(1), -2);
        Due.is("new: lot", x.lot(2), 1);
        UnlikeRoofs y = new UnlikeRoofs();
        Due.is("each object has a lot of its own", y.lot(1), 1);
    }

    // Promise 2: The lowest n (1 .. 8) bytes of v, the highest of them first, come to THE TEXT: how many it has.
    private static void typeLowestBytes() {
        UnlikeRoofs x = new UnlikeRoofs();
        Due.is("n 1: w", x.type(0x4142434445464777L, 1), 1);
        Due.is("n 7: ind up;", x.type(0x41696e642075703bL, 7), 8);
        Due.is("wind up;", x.town(), 1);
        Due.is("up", x.wind(0), 4);
        Due.is("n 8: wind up;", x.type(0x77696e642075703bL, 8), 8);
        Due.is("wind up; again", x.town(), 1);
        Due.is("up again", x.wind(0), 4);
        Due.is("a byte of 255 ahead", x.type(0xff696e642075703bL, 8), 8);
        Due.is("it begins no token", x.town(), -10);
        x.clear();
        Due.is("a blank below -1", x.type(-256L + ' ', 1), 1);
        Due.is("a byte of 128 behind", x.type(Long.MIN_VALUE + 0x80, 1), 2);
        Due.is("it begins no token either", x.town(), -11);
    }

    // Promise 2: BAD;
    private static void typeBad() {
        UnlikeRoofs x = new UnlikeRoofs();
        Due.is("n 0", x.type(' ', 0), -1);
        Due.is("n 1", x.type(' ', 1), 1);
        Due.is("n 8", x.type(0x2020202020202020L, 8), 9);
        Due.is("n 9", x.type(0x2020202020202020L, 9), -1);
        Due.is("n -1", x.type(' ', -1), -1);
        Due.is("n least", x.type(' ', Integer.MIN_VALUE), -1);
        Due.is("n greatest", x.type(' ', Integer.MAX_VALUE), -1);
        Due.is("no byte came", x.count(5), 9);
    }

    // Promise 2: FULL.
    private static void typeFull() {
        for (int n = 1; n <= 8; n++) {
            UnlikeRoofs x = new UnlikeRoofs();
            Due.type(x, " ".repeat(301 - n));
            Due.is("n " + n + " to 301", x.type(0x2020202020202020L, n), -3);
            Due.is("no byte of " + n + " came", x.count(5), 301 - n);
            UnlikeRoofs y = new UnlikeRoofs();
            Due.type(y, " ".repeat(300 - n));
            Due.is("n " + n + " to 300", y.type(0x2020202020202020L, n), 300);
            Due.is("n 1 to 301", y.type(' ', 1), -3);
        }
    }

    // Promises 2 and 4: They are a text (300 bytes at most), read byte by byte,
    private static void bytesAtMost() {
        UnlikeRoofs x = Due.town(" ".repeat(292) + "wind up;");
        Due.is("the last byte of 300 is read", x.wind(0), 4);
        Due.fault(" ".repeat(292) + "wind up^!");
        Due.fault(" ".repeat(299) + "^!");
        Due.fault(" ".repeat(293) + "wind up^");
        UnlikeRoofs y = new UnlikeRoofs();
        Due.type(y, " ".repeat(293) + "wind up");
        Due.is("; would be byte 301", y.type(';', 1), -3);
        Due.is("it is not read", y.town(), -310);
    }

    // Promise 3: THE TEXT is empty: how many bytes it had.
    private static void clearEmpties() {
        UnlikeRoofs x = Due.town("sort 1 1;house 0 0;");
        Due.is("none", x.clear(), 0);
        x.type(';', 1);
        Due.is("one", x.clear(), 1);
        Due.is("none behind it", x.count(5), 0);
        Due.type(x, "!".repeat(300));
        Due.is("all", x.clear(), 300);
        Due.is("none again", x.clear(), 0);
        Due.is("the town stays", x.count(0), 1);
        Due.is("there is room again", x.type(0x77696e642075703bL, 8), 8);
        Due.is("nothing of the old is read", x.town(), 1);
    }

    // Promise 4: THE TEXT tells all, and is empty then: how many ITEMS.
    private static void townTellsAll() {
        UnlikeRoofs x = Due.town(FOUR_SORTS + Edge.ROW + "bound 0 3;wind up;");
        Due.is("empty then", x.count(5), 0);
        Due.is("an empty text has none", x.town(), 0);
        Due.is("and tells all: no house", x.count(0), 0);
        Due.is("no sort", x.count(1), 0);
        Due.is("no wind", x.wind(0), 0);
        Due.type(x, "sort1 1;house0 0;" + "roof0 0;".repeat(35));
        Due.is("as many as go into 300 bytes", x.town(), 37);
        Due.is("one house", x.count(0), 1);
        Due.is("bound to none", x.house(0, 3), -9);
        Due.is("no wind again", x.wind(0), 0);
        Due.type(x, "wind left;");
        Due.is("one", x.town(), 1);
        Due.is("its house is gone", x.house(0, 0), -1);
        Due.is("its sort is gone", x.sort(0, 0), -1);
        Due.is("its wind is told", x.wind(0), 3);
    }

    // Promises 4, 10, 11, 12 and 20: THE TEXT tells all,
    private static void townLeavesNothing() {
        String dear = "sort 99 9;sort 98 9;sort 97 9;sort 96 9;" + Edge.ROW
            + "roof 0 0;roof 1 1;roof 2 0;roof 3 1;roof 4 0;roof 5 1;roof 6 0;roof 7 1;";
        for (String cheap : new String[] {"house 0 0;", "house 0 0;house 1 0;", "house 0 0;house 7 7;house 1 0;"}) {
            String text = "sort 9 1;sort 5 1;sort 1 1;" + cheap;
            UnlikeRoofs x = Due.town(dear);
            x.change(7, 0, 0, -1);
            x.cheapest(1, -1);
            Due.type(x, text);
            x.town();
            sameAnswers(text, x, Due.town(text));
        }
    }

    /** Nothing that an object was asked before may come into what it answers: neither of a town nor of a call. */
    private static void sameAnswers(String text, UnlikeRoofs x, UnlikeRoofs y) {
        int houses = y.count(0);
        for (int h = 0; h < houses; h++) {
            Due.is("no roofs yet: " + text, x.change(h, 0, 0, -1), -2);
            Due.is("roof " + h + ": " + text, x.roof(h, h % 2), y.roof(h, h % 2));
        }
        for (int h = -1; h < houses; h++) {
            Due.is("cheapest " + h + ": " + text, x.cheapest(0, h), y.cheapest(0, h));
            Due.is("ways: " + text, x.ways(1), y.ways(1));
        }
        for (int h = 0; h < houses; h++) {
            for (int s = 0; s < 3; s++) {
                x.cheapest(1, -1);
                Due.is("change " + h + " " + s + ": " + text, x.change(h, s, 0, -1), y.change(h, s, 0, -1));
                x.change(h, s, 1, h);
                Due.is("must " + h + ": " + text, x.must(0, h), y.must(0, h));
            }
        }
    }

    // Promise 4: -10 less FAULT: nothing changes (THE TEXT stays, too).
    private static void townFault() {
        Due.fault("^;");
        Due.fault(" ^;");
        Due.fault(" ".repeat(299) + "^;");
        Due.fault(" ".repeat(296) + "wind^");
        String told = BARE + "bound 0 1;roof 1 0;wind down;";
        UnlikeRoofs x = kept(told);
        UnlikeRoofs y = kept(told);
        String text = "sort 9 9;house 7 7;house 6 7;bound 1 0;wind up";
        Due.type(x, text);
        Due.type(y, text);
        Due.is("a fault at the end", x.town(), -10 - 46);
        Due.is("the same again", x.town(), -10 - 46);
        x.type(';', 1);
        y.type(';', 1);
        Due.alike("behind a fault", x, y);
    }

    private static UnlikeRoofs kept(String told) {
        UnlikeRoofs x = Due.town(told);
        x.saw(0, 0);
        x.keep(1);
        x.saw(1, -9);
        x.lot(77);
        x.rate(3, 1);
        return x;
    }

    // Promise 4: blanks (32), any number, ahead of, between, behind TOKENS
    private static void blanks() {
        Due.reads("wind up;", 1);
        Due.reads(" wind  up ; ", 1);
        String many = " ".repeat(73);
        Due.reads(many + "wind" + many + "up" + many + ";" + many, 1);
        for (char other : new char[] {0, 9, 10, 13, 31, 33, 127, 160}) {
            Due.faultAt(other + "wind up;", 0);
            Due.faultAt("wind" + other + "up;", 4);
            Due.faultAt("wind " + other + "up;", 5);
            Due.faultAt("wind up" + other + ";", 7);
            Due.faultAt("wind up;" + other, 8);
        }
    }

    // Promise 4: (needed only between two rows of letters, two NUMBERS);
    private static void blanksNeeded() {
        Due.reads("sort1 1;house0 0;bound0 0;house7 7;roof1 0;wind up;", 6);
        Due.fault("^windup;");
        Due.reads("wind up;", 1);
        Due.fault("sort 11^;");
        Due.reads("sort 1 1;", 1);
        Due.fault("^sortsort;");
        Due.fault("sort ^sort;");
        Due.fault("sort 1 1^house 0 0;");
        Due.fault("sort 1^sort 1;");
    }

    // Promise 4: ITEMS (none, too),
    private static void noItems() {
        Due.reads("", 0);
        Due.reads(" ", 0);
        Due.reads(" ".repeat(300), 0);
        Due.reads("wind up;", 1);
        Due.fault("^;");
        Due.fault("wind up;^;");
    }

    // Promise 4: each ended by ; :
    private static void itemsEnded() {
        Due.reads("wind up;sort 1 1;", 2);
        Due.fault("wind up ^sort 1 1;");
        Due.fault("wind up;sort 1 1^");
        Due.fault("wind up;^;sort 1 1;");
        Due.fault("wind up^:sort 1 1;");
    }

    // Promise 4: sort P B ;
    private static void sortItem() {
        Due.reads("sort 7 8;", 1);
        Due.fault("sort ^;");
        Due.fault("sort 7 ^;");
        Due.fault("sort 7 8 ^8;");
        Due.fault("sort ^none 8;");
        UnlikeRoofs x = Due.town("sort 7 8;");
        Due.is("P is the first", x.sort(0, 0), 7);
        Due.is("B is the second", x.sort(0, 1), 8);
    }

    // Promise 4: house X Y (where none is) ;
    private static void houseItem() {
        Due.reads("house 3 4;house 4 3;house 3 3;house 4 4;", 4);
        Due.fault("house 3 4;house 4 3;house 4 ^3;");
        Due.fault("house ^;");
        Due.fault("house 3^;");
        Due.fault("house 3 4 ^4;");
        UnlikeRoofs x = Due.town("house 3 4;");
        Due.is("X is the first", x.house(0, 0), 3);
        Due.is("Y is the second", x.house(0, 1), 4);
    }

    // Promise 4: roof H S ;
    private static void roofItem() {
        UnlikeRoofs x = Due.town(BARE + "roof 1 0;");
        Due.is("H is the first", x.house(1, 2), 0);
        Due.is("the other has none", x.house(0, 2), -9);
        Due.is("a roof does not bind", x.house(1, 3), -9);
        UnlikeRoofs y = Due.town(BARE + "roof 1 0;roof 1 1;");
        Due.is("told again", y.house(1, 2), 1);
        Due.fault(BARE + "roof ^;");
        Due.fault(BARE + "roof 0 ^;");
        Due.fault(BARE + "roof 0 ^none;");
        Due.fault(BARE + "roof 0 0 ^0;");
    }

    // Promise 4: bound H S (its ROOF is S, too, then) ;
    private static void boundItem() {
        UnlikeRoofs x = Due.town(BARE + "roof 1 1;bound 1 0;bound 0 1;");
        Due.is("a roof that it had goes", x.house(1, 2), 0);
        Due.is("bound", x.house(1, 3), 0);
        Due.is("a roof that it had not comes", x.house(0, 2), 1);
        Due.is("bound, too", x.house(0, 3), 1);
        Due.fault(BARE + "bound ^;");
        Due.fault(BARE + "bound 0 ^;");
        Due.fault(BARE + "bound 0 0 ^0;");
    }

    // Promise 4: wind none, wind right, wind down, wind left, wind up (once at most).
    private static void windItem() {
        String[] words = {"none", "right", "down", "left", "up"};
        for (int w = 0; w < words.length; w++) {
            Due.is("wind " + words[w], Due.town("wind " + words[w] + ";").wind(0), w);
            Due.fault("wind " + words[w] + ";^wind " + words[w] + ";");
        }
        Due.is("not told at all", Due.town("").wind(0), 0);
        Due.fault("wind ^;");
        Due.fault("wind ^1;");
        Due.fault("wind up ^up;");
    }

    // Promise 4: (HOUSES, SORTS that were told.)
    private static void numbersThatWereTold() {
        for (String item : new String[] {"roof ", "bound "}) {
            Due.fault(item + "^0 0;");
            Due.fault("sort 1 1;" + item + "^0 0;");
            Due.fault("house 0 0;" + item + "0 ^0;");
            Due.fault("sort 1 1;" + item + "^0 0;house 0 0;");
            Due.fault("house 0 0;" + item + "0 ^0;sort 1 1;");
            Due.reads("sort 1 1;house 0 0;" + item + "0 0;", 3);
            Due.reads(BARE + item + "1 1;", 5);
            Due.fault(BARE + item + "^2 1;");
            Due.fault(BARE + item + "1 ^2;");
            Due.reads(FOUR_SORTS + Edge.ROW + item + "7 3;", 13);
            Due.fault(FOUR_SORTS + Edge.ROW + item + "^8 3;");
            Due.fault(FOUR_SORTS + Edge.ROW + item + "7 ^4;");
        }
    }

    // Promise 4: TOKENS are words of letters a .. z (sort, house, roof, bound, wind, none, right, down, left, up),
    // NUMBERS and ; .
    private static void tokens() {
        // a and z belong to a word, the bytes beside them do not; so do 0 and 9 to a NUMBER.
        Due.fault("^asort 1 1;");
        Due.fault("^sorta 1 1;");
        Due.fault("^sortz 1 1;");
        Due.fault("^zsort 1 1;");
        Due.fault("sort^` 1 1;");
        Due.fault("sort^{ 1 1;");
        Due.reads("sort 10 9;", 1);
        Due.reads("sort 90 0;", 1);
        Due.fault("sort 1^/ 1;");
        Due.fault("sort 1^: 1;");
        Due.fault("wind up^<");
        Due.fault("^Sort 1 1;");
        Due.fault("sort^T 1 1;");
        Due.fault("sort ^-1 1;");
        Due.fault("sort ^+1 1;");
        Due.fault("sort 1^.0 1;");
        for (String word : new String[] {"none", "right", "down", "left", "up"}) {
            Due.fault("^" + word + ";");
            Due.fault("wind " + word + " ^" + word + ";");
        }
        for (String word : new String[] {"sort", "house", "roof", "bound", "wind"}) {
            Due.fault("wind ^" + word + ";");
            Due.fault(word + " ^" + word + ";");
        }
    }

    // Promise 4: FAULT: the place of the first byte of the first TOKEN that can't stand there
    private static void firstFault() {
        Due.fault("^up sorts 100 !");
        Due.fault("   ^100 sorts !");
        Due.fault("sort 1 1;   ^bind 0 0;sort 0 0;");
        Due.fault("sort 1 ^10;sort 0 1;");
        Due.fault("house 7 7;house ^8 8;");
        Due.fault("wind up;^wind");
        Due.fault("sort 1 1;wind^");
    }

    // Promise 4: a fifth sort,
    private static void fifthSort() {
        Due.reads(FOUR_SORTS, 4);
        Due.fault(FOUR_SORTS + "^sort 1 1;");
        Due.fault(FOUR_SORTS + "^sort");
        Due.fault(FOUR_SORTS + "house 0 0;^sort 0 0;");
    }

    // Promise 4: a ninth house,
    private static void ninthHouse() {
        Due.reads(Edge.ROW, 8);
        Due.fault(Edge.ROW + "^house 0 1;");
        Due.fault(Edge.ROW + "^house");
        Due.fault(Edge.ROW + "sort 1 1;^house 0 0;");
    }

    // Promise 4: a Y where a house is,
    private static void houseOnHouse() {
        Due.reads("house 5 2;house 5 3;house 6 2;house 2 5;", 4);
        Due.fault("house 5 2;house 5 ^2;");
        Due.fault("house 5 2;house 5 ^2");
        Due.fault("house 5 2;house 5^");
        Due.fault(Edge.ROW.replace("house 7 0;", "house 0 ^0;"));
        Due.fault(Edge.ROW.replace("house 7 0;", "house 6 ^0;"));
    }

    // Promise 4: a roof of a house BOUND to another SORT (at S),
    private static void roofOfBound() {
        Due.reads(BARE + "bound 0 1;roof 0 1;roof 1 0;", 7);
        Due.fault(BARE + "bound 0 1;roof 0 ^0;");
        Due.fault(BARE + "bound 0 1;roof 0^");
        Due.fault(BARE + "bound 0 0;roof 0 ^1;");
        Due.reads(BARE + "roof 0 0;bound 0 1;", 6);
    }

    // Promise 4: a bound of one that is BOUND (at H),
    private static void boundTwice() {
        Due.reads(BARE + "bound 0 1;bound 1 1;", 6);
        Due.fault(BARE + "bound 0 1;bound ^0 1;");
        Due.fault(BARE + "bound 0 1;bound ^0 0;");
        Due.fault(BARE + "bound 1 0;bound ^1");
    }

    // Promise 4: wind told again,
    private static void windTwice() {
        Due.reads("wind left;sort 1 1;", 2);
        Due.fault("wind left;sort 1 1;^wind right;");
        Due.fault("wind none;^wind none;");
        Due.fault("wind none;^wind");
        UnlikeRoofs x = Due.town("wind left;");
        Due.type(x, "wind up;");
        Due.is("in a text of its own it is not told again", x.town(), 1);
        Due.is("and it stands", x.wind(0), 4);
        Due.type(x, "wind down;");
        Due.is("nor in a third one", x.town(), 1);
        Due.is("that stands, too", x.wind(0), 2);
    }

    // Promise 4: a NUMBER beyond what it may be, too);
    private static void numberBeyond() {
        Due.fault("sort ^0 1;");
        Due.reads("sort 1 1;", 1);
        Due.reads("sort 99 1;", 1);
        Due.reads("sort 1 0;", 1);
        Due.reads("sort 1 9;", 1);
        Due.fault("sort 1 ^10;");
        Due.fault("sort 1 ^99;");
        Due.reads("house 0 7;", 1);
        Due.fault("house 0 ^8;");
        Due.reads("house 7 0;", 1);
        Due.fault("house ^8 0;");
        Due.fault("house ^99 0;");
        Due.fault(BARE + "roof ^99 0;");
        Due.fault(BARE + "bound 0 ^99;");
    }

    // Promise 4: of a byte that begins none,
    private static void byteThatBeginsNone() {
        for (char other : new char[] {0, 33, 47, 58, 60, 64, 65, 90, 91, 96, 123, 127, 128, 200, 255}) {
            Due.faultAt(String.valueOf(other), 0);
            Due.faultAt("sort " + other + ";", 5);
            Due.faultAt("sort 1 1" + other, 8);
            Due.faultAt("sort 1 1; " + other + other, 10);
        }
        Due.reads("sort 1 1; ", 1);
    }

    // Promise 4: a word that is none of these,
    private static void wordThatIsNone() {
        for (String word : new String[] {"sort", "house", "roof", "bound", "wind"}) {
            Due.fault("^" + word.substring(1) + " 1 1;");
            Due.fault("^" + word.substring(0, word.length() - 1) + " 1 1;");
            Due.fault("^" + word + "s 1 1;");
        }
        for (String word : new String[] {"none", "right", "down", "left", "up"}) {
            Due.reads("wind " + word + ";", 1);
            Due.fault("wind ^" + word.substring(1) + ";");
            Due.fault("wind ^" + word.substring(0, word.length() - 1) + ";");
            Due.fault("wind ^" + word + "s;");
            Due.fault("wind ^" + word.substring(0, word.length() - 1) + "x;");
        }
        Due.fault("^" + "a".repeat(300));
    }

    // Promise 4: a NUMBER above 99
    private static void numberAbove99() {
        Due.reads("sort 99 1;", 1);
        Due.fault("sort ^100 1;");
        Due.fault("sort 1 ^100;");
        Due.fault("sort 1 1 ^100;");
        Due.fault("^100;");
        // What would wrap around to 1: 256, 65536, 4294967296, 18446744073709551616 and 1.
        Due.fault("sort ^257 1;");
        Due.fault("sort ^65537 1;");
        Due.fault("sort ^4294967297 1;");
        Due.fault("sort ^18446744073709551617 1;");
        Due.fault("house ^4294967296 1;");
        Due.fault("sort ^" + "9".repeat(295));
    }

    // Promise 4: or with a 0 ahead of others, that TOKEN's;
    private static void zeroAhead() {
        Due.reads("sort 1 0;", 1);
        Due.reads("sort 10 0;", 1);
        Due.reads("house 0 0;", 1);
        Due.fault("sort 1 ^00;");
        Due.fault("sort ^01 0;");
        Due.fault("sort ^010 0;");
        Due.fault("house ^00 0;");
        Due.fault("house 0 ^07;");
        Due.fault("sort 1 1 ^01;");
        Due.fault("^0" + "0".repeat(299));
    }

    // Promise 4: the text's length, if it ends too early.
    private static void tooEarly() {
        String start = BARE;
        Due.fault("sort^");
        Due.fault("sort ^");
        Due.fault("sort 1^");
        Due.fault("sort 1 1^");
        Due.fault("sort 1 1   ^");
        Due.reads("sort 1 1;", 1);
        Due.reads("sort 1 1;   ", 1);
        Due.fault("sort 1 1;house^");
        Due.fault("house 7^");
        Due.fault("house 7 7^");
        Due.reads("house 7 7;", 1);
        Due.fault(start + "roof^");
        Due.fault(start + "roof 1^");
        Due.fault(start + "roof 1 1 ^");
        Due.fault(start + "bound ^");
        Due.fault(start + "bound 1  ^");
        Due.fault(start + "bound 1 1^");
        Due.fault("wind^");
        Due.fault("wind up^");
        // A word that ends too early is another word, and that is none.
        Due.fault("^sor");
        Due.fault("wind ^u");
    }
}
