/** What all tests of the project share: comparing an answer with the one that is due, and typing a text. */
final class Due {
    /** Stands in a text told to fault() ahead of the TOKEN that can't stand there. */
    private static final char MARK = '^';

    private static int wrong = 0;
    private static int asked = 0;

    private Due() {
    }

    static void is(String call, long got, long want) {
        asked++;
        if (got != want) {
            wrong++;
            System.out.println(call + " answered " + got + ", due is " + want);
        }
    }

    static void type(UnlikeRoofs roofs, String text) {
        for (int i = 0; i < text.length(); i += 8) {
            String part = text.substring(i, Math.min(text.length(), i + 8));
            long v = 0;
            for (int k = 0; k < part.length(); k++) {
                v = v << 8 | part.charAt(k) & 255;
            }
            roofs.type(v, part.length());
        }
    }

    /** A new object whose town the text tells. */
    static UnlikeRoofs town(String text) {
        UnlikeRoofs roofs = new UnlikeRoofs();
        type(roofs, text);
        int items = roofs.town();
        if (items < 0) {
            wrong++;
            System.out.println("town() of '" + text + "' answered " + items);
        }
        return roofs;
    }

    /** A text that town() takes with that many ITEMS, or one that it answers with that refusal. */
    static void reads(String text, int want) {
        UnlikeRoofs x = new UnlikeRoofs();
        type(x, text);
        is("town of '" + text + "'", x.town(), want);
        is("bytes behind '" + text + "'", x.count(5), want >= 0 ? 0 : text.length());
    }

    /** A text whose FAULT is at that place. */
    static void faultAt(String text, int place) {
        reads(text, -10 - place);
    }

    /** A text whose FAULT is where ^ stands in what is told here: the text itself is without it. */
    static void fault(String marked) {
        int place = marked.indexOf(MARK);
        if (place < 0) {
            wrong++;
            System.out.println("no mark in '" + marked + "'");
            return;
        }
        faultAt(marked.substring(0, place) + marked.substring(place + 1), place);
    }

    /** Two objects that all calls behind answer alike; what is asked here uses both up. */
    static void alike(String when, UnlikeRoofs x, UnlikeRoofs y) {
        alikeAsTheyAre(when, x, y);
        for (int image = 0; image <= 1; image++) {
            is(when + ": back " + image, x.back(image), y.back(image));
            alikeAsTheyAre(when + ", image " + image, x, y);
        }
        is(when + ": town", x.town(), y.town());
        alikeAsTheyAre(when + ", town behind", x, y);
    }

    private static void alikeAsTheyAre(String when, UnlikeRoofs x, UnlikeRoofs y) {
        for (int what = 0; what <= 5; what++) {
            is(when + ": count " + what, x.count(what), y.count(what));
        }
        for (int h = 0; h < y.count(0); h++) {
            for (int what = 0; what <= 4; what++) {
                is(when + ": house " + h + " " + what, x.house(h, what), y.house(h, what));
            }
        }
        for (int s = 0; s < y.count(1); s++) {
            is(when + ": sort " + s + " 0", x.sort(s, 0), y.sort(s, 0));
            is(when + ": sort " + s + " 1", x.sort(s, 1), y.sort(s, 1));
        }
        int wind = y.wind(0);
        int lot = y.lot(0);
        is(when + ": wind", x.wind(0), wind);
        is(when + ": lot", x.lot(0), lot);
        x.wind(wind);
        y.wind(wind);
        x.lot(lot);
        y.lot(lot);
        is(when + ": began", x.began(), y.began());
        is(when + ": trace", x.trace(), y.trace());
    }

    static void finish() {
        System.out.println(wrong == 0 ? asked + " answers are as due" : wrong + " answers are not as due");
        if (wrong != 0) {
            System.exit(1);
        }
    }
}
