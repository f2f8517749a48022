/** Promises 1 to 4: a new object, typing, clearing, reading a town and its faults. */
public final class TextTest {
    private static final String FOUR_SORTS = "sort 1 1;sort 2 1;sort 3 1;sort 4 1;";
    private static final String EIGHT_HOUSES = "house 0 0;house 1 0;house 2 0;house 3 0;house 4 0;house 5 0;house 6 0;"
        + "house 7 0;";

    public static void main(String[] args) {
        constants();
        newObject();
        typing();
        clearing();
        goodTexts();
        blanks();
        tooEarly();
        wrongWords();
        wrongNumbers();
        wrongItems();
        faultChangesNothing();
        readAnew();
        nothingLeftOver();
        Due.finish();
    }

    private static void constants() {
        Due.is("BAD", UnlikeRoofs.BAD, -1);
        Due.is("STATE", UnlikeRoofs.STATE, -2);
        Due.is("FULL", UnlikeRoofs.FULL, -3);
        Due.is("NONE", UnlikeRoofs.NONE, -9);
        Due.is("NO", UnlikeRoofs.NO, -1000000);
    }

    private static void newObject() {
        UnlikeRoofs x = new UnlikeRoofs();
        for (int what = 0; what <= 5; what++) {
            Due.is("count " + what + " of a new object", x.count(what), 0);
        }
        Due.is("trace of a new object", x.trace(), 0);
        Due.is("house 0 of a new object", x.house(0, 0), -1);
        Due.is("sort 0 of a new object", x.sort(0, 0), -1);
        Due.is("wind of a new object", x.wind(3), 0);
        Due.is("lot of a new object", x.lot(9), 1);
        Due.is("forget of a new object", x.forget(), 0);
        Due.is("clear of a new object", x.clear(), 0);
        Due.is("back 0 of a new object", x.back(0), -2);
        Due.is("back 1 of a new object", x.back(1), -2);
        Due.is("breaches of a new object", x.breaches(1), 0);
    }

    private static void typing() {
        UnlikeRoofs x = new UnlikeRoofs();
        Due.is("type n 0", x.type(65, 0), -1);
        Due.is("type n 9", x.type(65, 9), -1);
        Due.is("type n -1", x.type(65, -1), -1);
        Due.is("type n least", x.type(65, Integer.MIN_VALUE), -1);
        // "wind" and "none;" with other bytes above those that are asked for
        Due.is("type 4 of 8 bytes", x.type(0x4142434477696e64L, 4), 4);
        Due.is("type 1 more", x.type(-256L + ' ', 1), 5);
        Due.is("type 5 more", x.type(0xffffff6e6f6e653bL, 5), 10);
        Due.is("the highest byte is first", x.town(), 1);
        for (int i = 1; i <= 37; i++) {
            Due.is("type " + i, x.type(0x2020202020202020L, 8), 8 * i);
        }
        Due.is("301 bytes", x.type(0x2020202020L, 5), -3);
        Due.is("FULL changes nothing", x.count(5), 296);
        Due.is("BAD is ahead of FULL", x.type(0, 9), -1);
        Due.is("300 bytes", x.type(0x20202020L, 4), 300);
        Due.is("one byte too many", x.type(0x20, 1), -3);
        Due.is("300 blanks tell no items", x.town(), 0);
    }

    private static void clearing() {
        UnlikeRoofs x = new UnlikeRoofs();
        Due.type(x, "sort 1 1;wrong");
        Due.is("clear", x.clear(), 14);
        Due.is("count behind clear", x.count(5), 0);
        Due.is("clear twice", x.clear(), 0);
        Due.is("town behind clear", x.town(), 0);
    }

    private static void goodTexts() {
        Due.reads("", 0);
        Due.reads("    ", 0);
        Due.reads("sort 99 9;", 1);
        Due.reads("sort 1 0;house 7 7;roof 0 0;roof 0 0;bound 0 0;roof 0 0;wind none;", 7);
        Due.reads(FOUR_SORTS + EIGHT_HOUSES, 12);
        Due.reads("wind none;", 1);
        Due.reads("wind right;", 1);
        Due.reads("wind down;", 1);
        Due.reads("wind left;", 1);
        Due.reads("wind up;", 1);
        UnlikeRoofs x = Due.town("sort 12 3;sort 7 0;house 2 5;house 6 1;roof 0 1;bound 0 0;bound 1 1;wind left;");
        Due.is("x", x.house(0, 0), 2);
        Due.is("y", x.house(0, 1), 5);
        Due.is("roof becomes what it is bound to", x.house(0, 2), 0);
        Due.is("bound", x.house(0, 3), 0);
        Due.is("bound gives a roof", x.house(1, 2), 1);
        Due.is("price", x.sort(0, 0), 12);
        Due.is("burn", x.sort(0, 1), 3);
        Due.is("wind", x.wind(0), 3);
    }

    private static void blanks() {
        Due.reads("sort1 1;", 1);
        Due.reads("  sort  1   1  ;  ", 1);
        Due.reads("sort 1 1;house1 2;roof0 0;bound0 0;wind up ;", 5);
        Due.faultAt("sort 11;", 7);
        Due.faultAt("windup;", 0);
        Due.faultAt("wind\tup;", 4);
        Due.faultAt("wind up\n;", 7);
    }

    private static void tooEarly() {
        Due.faultAt("sort", 4);
        Due.faultAt("sort ", 5);
        Due.faultAt("sort 1", 6);
        Due.faultAt("sort 1 1", 8);
        Due.faultAt("sort 1 1   ", 11);
        Due.faultAt("house 1", 7);
        Due.faultAt("house 1 1", 9);
        Due.faultAt("sort 1 1;house 0 0;roof 0", 25);
        Due.faultAt("sort 1 1;house 0 0;bound", 24);
        Due.faultAt("wind", 4);
        Due.faultAt("wind up", 7);
    }

    private static void wrongWords() {
        Due.faultAt("sor 1 1;", 0);
        Due.faultAt("sortx 1 1;", 0);
        Due.faultAt("sorta 1 1;", 0);
        Due.faultAt("sortz 1 1;", 0);
        Due.faultAt("sort{1 1;", 4);
        Due.faultAt("sort`1 1;", 4);
        Due.faultAt("sort/1 1;", 4);
        Due.faultAt("sort:1 1;", 4);
        Due.faultAt("Sort 1 1;", 0);
        Due.faultAt(";", 0);
        Due.faultAt("sort 1 1;;", 9);
        Due.faultAt("7;", 0);
        Due.faultAt("up;", 0);
        Due.faultAt("sort 1 1;none;", 9);
        Due.faultAt("sort up 1;", 5);
        Due.faultAt("sort 1 1 1;", 9);
        Due.faultAt("sort 1;", 6);
        Due.faultAt("wind;", 4);
        Due.faultAt("wind sort;", 5);
        Due.faultAt("wind ups;", 5);
        Due.faultAt("wind 0;", 5);
        Due.faultAt("sort -1 1;", 5);
        Due.faultAt("sort 1 1" + (char) 233 + ";", 8);
        Due.faultAt("" + (char) 0, 0);
        Due.faultAt(" " + (char) 255, 1);
        Due.faultAt("roof none 0;", 5);
    }

    private static void wrongNumbers() {
        Due.faultAt("sort 0 1;", 5);
        Due.faultAt("sort 100 1;", 5);
        Due.faultAt("sort 1 10;", 7);
        Due.faultAt("sort 1 00;", 7);
        Due.faultAt("sort 1 01;", 7);
        Due.faultAt("sort 007 1;", 5);
        Due.faultAt("sort 4294967297 1;", 5);
        Due.faultAt("sort 18446744073709551617 1;", 5);
        Due.faultAt("house 8 0;", 6);
        Due.faultAt("house 0 8;", 8);
        Due.faultAt("house 0 100;", 8);
        Due.faultAt("100", 0);
        Due.faultAt("sort 1 1;house 0 0;roof 1 0;", 24);
        Due.faultAt("sort 1 1;house 0 0;roof 0 1;", 26);
        Due.faultAt("sort 1 1;house 0 0;bound 1 0;", 25);
        Due.faultAt("sort 1 1;house 0 0;bound 0 1;", 27);
        Due.faultAt("roof 0 0;", 5);
        Due.faultAt("house 0 0;bound 0 0;", 18);
        Due.faultAt("house 0 0;roof 0 0;sort 1 1;", 17);
    }

    private static void wrongItems() {
        Due.faultAt(FOUR_SORTS + "sort 1 1;", 36);
        Due.faultAt(EIGHT_HOUSES + "house 0 1;", 80);
        Due.faultAt("sort 1 1;" + EIGHT_HOUSES + "roof 8 0;", 94);
        Due.faultAt("sort 1 1;" + EIGHT_HOUSES + "bound 8 0;", 95);
        Due.faultAt(FOUR_SORTS + EIGHT_HOUSES + "roof 7 4;", 123);
        Due.faultAt(FOUR_SORTS + EIGHT_HOUSES + "bound 7 4;", 124);
        Due.faultAt("house 3 4;house 3 4;", 18);
        Due.faultAt("house 3 4;house 3 4", 18);
        Due.reads("house 3 4;house 4 3;", 2);
        Due.faultAt("sort 1 1;sort 1 1;house 0 0;bound 0 1;roof 0 0;", 45);
        Due.reads("sort 1 1;sort 1 1;house 0 0;roof 0 0;roof 0 1;bound 0 0;roof 0 0;", 7);
        Due.faultAt("sort 1 1;sort 1 1;house 0 0;bound 0 1;bound 0 0;", 44);
        Due.faultAt("sort 1 1;house 0 0;bound 0 0;bound 0 0;", 35);
        Due.faultAt("wind up;wind up;", 8);
        Due.faultAt("wind none;wind none;", 10);
        Due.faultAt("wind none; wind", 11);
    }

    private static void faultChangesNothing() {
        UnlikeRoofs x = Due.town("sort 5 2;house 1 1;roof 0 0;wind up;");
        x.saw(0, 3);
        x.keep(1);
        x.lot(77);
        x.rate(0, 0);
        Due.type(x, "sort 9 9;house 7 7;wind left;sort 0");
        Due.is("a fault", x.town(), -44);
        Due.is("the same fault again", x.town(), -44);
        Due.is("text stays", x.count(5), 35);
        Due.is("houses stay", x.count(0), 1);
        Due.is("sorts stay", x.count(1), 1);
        Due.is("price stays", x.sort(0, 0), 5);
        Due.is("cell stays", x.house(0, 0), 1);
        Due.is("roof stays", x.house(0, 2), 0);
        Due.is("seen stays", x.count(4), 1);
        Due.is("wind stays", x.wind(1), 4);
        Due.is("image stays", x.back(1), 1);
        Due.is("wind of the image", x.wind(0), 4);
        x.clear();
        Due.type(x, "house 0 0;");
        Due.is("no items of a faulty text stay", x.town(), 1);
        Due.is("houses", x.count(0), 1);
        Due.is("sorts", x.count(1), 0);
    }

    private static void readAnew() {
        UnlikeRoofs x = Due.town("sort 5 2;house 1 1;house 2 1;bound 0 0;roof 1 0;wind up;");
        x.saw(0, 3);
        x.keep(0);
        x.keep(1);
        x.lot(77);
        x.rate(5, 1);
        Due.type(x, "sort 1 1;house 4 4;");
        Due.is("read anew", x.town(), 2);
        Due.is("houses anew", x.count(0), 1);
        Due.is("roofs anew", x.count(2), 0);
        Due.is("bound anew", x.house(0, 3), -9);
        Due.is("wind anew", x.wind(0), 0);
        Due.is("nothing seen anew", x.count(4), 0);
        Due.is("image 0 is gone", x.back(0), -2);
        Due.is("image 1 is gone", x.back(1), -2);
        Due.is("the lot stays", x.lot(0), 77);
        Due.is("the trace goes on", x.trace(), 100001);
        Due.is("an empty text is a town", x.town(), 0);
        Due.is("with no houses", x.count(0), 0);
        Due.is("with no sorts", x.count(1), 0);
    }

    /** What earlier texts told, or told up to a fault, is in no later town. */
    private static void nothingLeftOver() {
        UnlikeRoofs x = Due.town("sort 5 2;sort 6 2;house 1 1;house 2 1;house 3 1;bound 0 1;bound 1 0;wind up;");
        Due.type(x, "sort 7 7;sort 8 8;house 4 4;house 5 4;bound 0 0;bound 1 1;wind left;bound 1");
        Due.is("a fault at a bound one", x.town(), -10 - 74);
        x.clear();
        for (int round = 0; round < 3; round++) {
            Due.type(x, "sort 1 1;house 0 0;");
            Due.is("a small town", x.town(), 2);
            Due.is("its wind", x.wind(2), 0);
            Due.is("its second sort", x.sort(1, 0), -1);
            Due.is("its second house", x.house(1, 0), -1);
            Due.is("its roofs", x.count(2), 0);
            Due.is("not bound", x.house(0, 3), -9);
            Due.is("a roof", x.roof(0, 0), -9);
            Due.is("one way", x.ways(1), 1);
            Due.type(x, "sort 1 1;house 0 0;bound 1 0;");
            Due.is("no second house to bind", x.town(), -35);
            x.clear();
            Due.type(x, "sort 1 1;house 0 0;roof 1 0;");
            Due.is("no second house to roof", x.town(), -34);
            x.clear();
            Due.type(x, "wind up;sort 1 1;house 0 0;house 1 0;bound 0 0;bound 1 0;house 1 0;");
            Due.is("a fault behind two bound ones", x.town(), -10 - 65);
            x.clear();
        }
    }
}
