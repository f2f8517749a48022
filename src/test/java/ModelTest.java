import java.util.Random;

/** Rows of drawn calls, each asked of the program and of PlainTown; always the same rows. */
public final class ModelTest {
    private static final int RUNS = 3000;
    private static final int CALLS = 120;
    private static final String[] WORDS = {"sort", "house", "roof", "bound", "wind", "none", "right", "down", "left",
        "up", ";", ";", "0", "1", "2", "7", "8", "9", "10", "99", "100", "00", "07", "winds", "Sort", "-", "\t",
        "\u0000", "\u00e9", "\u00ff", "12345678901234567890"};

    private final Random random;
    private final UnlikeRoofs roofs = new UnlikeRoofs();
    private final PlainTown plain = new PlainTown();
    private final StringBuilder log = new StringBuilder();

    private ModelTest(long seed) {
        random = new Random(seed);
    }

    public static void main(String[] args) {
        for (int run = 0; run < RUNS; run++) {
            new ModelTest(run).run();
        }
        Due.finish();
    }

    private void run() {
        for (int call = 0; call < CALLS; call++) {
            int kind = call == 0 ? 0 : random.nextInt(100);
            if (kind < 3) {
                typeText(townText());
                same("town()", roofs.town(), plain.town());
            } else if (kind < 6) {
                typeText(brokenText());
                same("town()", roofs.town(), plain.town());
            } else if (kind < 9) {
                rawType();
            } else {
                anyCall(random.nextInt(28));
            }
        }
    }

    private int up(int bound) {
        return random.nextInt(bound);
    }

    /** Mostly a house, now and then a number that is none. */
    private int anyHouse() {
        int[] odd = {-1, -9, 8, 9, Integer.MIN_VALUE, Integer.MAX_VALUE};
        return up(25) == 0 ? odd[up(odd.length)] : up(Math.max(1, roofs.count(0)));
    }

    private int anySort() {
        int[] odd = {-1, -9, -9, 4, 5, Integer.MIN_VALUE, Integer.MAX_VALUE};
        return up(12) == 0 ? odd[up(odd.length)] : up(Math.max(1, roofs.count(1)));
    }

    private int anySparks() {
        int[] odd = {-1, 2, 3, Integer.MIN_VALUE};
        return up(25) == 0 ? odd[up(odd.length)] : up(2);
    }

    private int from(int least, int most) {
        return least + up(most - least + 1);
    }

    private String townText() {
        StringBuilder text = new StringBuilder();
        int sorts = up(10) == 0 ? 0 : from(1, 4);
        int houses = up(12) == 0 ? 0 : from(1, 8);
        int wide = from(1, 3);
        for (int s = 0; s < sorts; s++) {
            text.append("sort ").append(from(1, up(2) == 0 ? 5 : 99)).append(' ').append(up(3) == 0 ? 0 : up(10));
            text.append(';');
        }
        boolean[][] built = new boolean[8][8];
        int left = from(0, 4);
        for (int h = 0; h < houses; h++) {
            int x = left + up(wide + 1);
            int y = left + up(wide + 1);
            if (!built[x][y]) {
                built[x][y] = true;
                text.append("house ").append(x).append(' ').append(y).append(';');
                if (sorts > 0 && up(4) != 0) {
                    int number = count(text, "house") - 1;
                    text.append(up(5) == 0 ? "bound " : "roof ").append(number).append(' ');
                    text.append(up(sorts)).append(';');
                }
            }
        }
        String[] winds = {"none", "right", "down", "left", "up"};
        return up(2) == 0 ? text.toString() : text.append("wind ").append(winds[up(5)]).append(';').toString();
    }

    private static int count(CharSequence text, String word) {
        return text.toString().split(word, -1).length - 1;
    }

    /** A town's text with a few tokens or bytes exchanged, dropped or doubled. */
    private String brokenText() {
        StringBuilder text = new StringBuilder(townText());
        for (int i = from(0, 2); i >= 0; i--) {
            int at = up(text.length() + 1);
            switch (up(5)) {
                case 0 -> text.insert(at, WORDS[up(WORDS.length)]);
                case 1 -> text.insert(at, " ".repeat(up(4)));
                case 2 -> text.setLength(at);
                case 3 -> text.append(WORDS[up(WORDS.length)]).append(' ').append(WORDS[up(WORDS.length)]);
                default -> {
                    if (at < text.length()) {
                        text.deleteCharAt(at);
                    }
                }
            }
        }
        return text.toString();
    }

    private void typeText(String text) {
        if (up(8) != 0) {
            same("clear()", roofs.clear(), plain.clear());
        }
        for (int i = 0; i < text.length();) {
            int n = Math.min(from(1, 8), text.length() - i);
            long v = random.nextLong();
            for (int k = 0; k < n; k++) {
                v = v << 8 | text.charAt(i + k);
            }
            same("type(" + v + ", " + n + ")", roofs.type(v, n), plain.type(v, n));
            i += n;
        }
    }

    private void rawType() {
        long v = random.nextLong();
        int n = from(-1, 10);
        same("type(" + v + ", " + n + ")", roofs.type(v, n), plain.type(v, n));
    }

    private void anyCall(int which) {
        int h = anyHouse();
        int g = up(3) == 0 ? -1 : anyHouse();
        int s = anySort();
        int sparks = anySparks();
        int what = from(-1, 6);
        int two = up(12) == 0 ? what : up(2);
        int w = from(-1, 5);
        switch (which) {
            case 0 -> same("clear()", roofs.clear(), plain.clear());
            case 1 -> same("town()", roofs.town(), plain.town());
            case 2 -> same("house " + h + " " + what, roofs.house(h, what), plain.house(h, what));
            case 3 -> same("sort " + s + " " + two, roofs.sort(s, two), plain.sort(s, two));
            case 4, 5 -> same("roof " + h + " " + s, roofs.roof(h, s), plain.roof(h, s));
            case 6 -> same("wind " + w, roofs.wind(w), plain.wind(w));
            case 7 -> same("breaches " + sparks, roofs.breaches(sparks), plain.breaches(sparks));
            case 8 -> same("cheapest " + sparks + " " + g, roofs.cheapest(sparks, g), plain.cheapest(sparks, g));
            case 9 -> same("ways " + sparks, roofs.ways(sparks), plain.ways(sparks));
            case 10 -> same("must " + sparks + " " + h, roofs.must(sparks, h), plain.must(sparks, h));
            case 11 -> same("catches " + g + " " + h, roofs.catches(g, h), plain.catches(g, h));
            case 12 -> same("fire " + h + " " + what, roofs.fire(h, what), plain.fire(h, what));
            case 13 -> same("worst", roofs.worst(), plain.worst());
            case 14 -> same("mean " + two, roofs.mean(two), plain.mean(two));
            case 15 -> saw(h);
            case 16 -> same("forget", roofs.forget(), plain.forget());
            case 17 -> same("began", roofs.began(), plain.began());
            case 18, 19 -> same("change " + h + " " + s + " " + sparks + " " + g,
                roofs.change(h, s, sparks, g), plain.change(h, s, sparks, g));
            case 20 -> same("pays " + h, roofs.pays(h), plain.pays(h));
            case 21 -> order(sparks);
            default -> laterCall(which, h, s, two);
        }
    }

    private void saw(int h) {
        int minute = up(3) == 0 ? -9 : up(6) == 0 ? from(-2, 101) : up(3);
        same("saw " + h + " " + minute, roofs.saw(h, minute), plain.saw(h, minute));
    }

    private void order(int sparks) {
        int old = up(4) == 0 ? random.nextInt() : up(2) == 0 ? 0 : up(256);
        int w = from(-1, 8);
        same("order " + old + " " + sparks + " " + w, roofs.order(old, sparks, w), plain.order(old, sparks, w));
    }

    private void laterCall(int which, int h, int s, int image) {
        int n = up(8) == 0 ? from(-1, 101) : from(1, 6);
        int v = random.nextInt();
        int kind = from(-1, 6);
        int what = from(-1, 6);
        switch (which) {
            case 22 -> same("years " + n + " " + s, roofs.years(n, s), plain.years(n, s));
            case 23 -> same("lot " + v, roofs.lot(v), plain.lot(v));
            case 24 -> same("rate " + kind + " " + h, roofs.rate(kind, h), plain.rate(kind, h));
            case 25 -> same("keep " + image, roofs.keep(image), plain.keep(image));
            case 26 -> same("back " + image, roofs.back(image), plain.back(image));
            default -> {
                same("count " + what, roofs.count(what), plain.count(what));
                same("trace", roofs.trace(), plain.trace());
            }
        }
    }

    private void same(String call, long got, long want) {
        log.append(call).append('\n');
        Due.is(call, got, want);
        if (got != want) {
            System.out.println("the calls ahead of it:\n" + log);
            Due.finish();
        }
    }
}
