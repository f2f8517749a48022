/** Houses on cells whose roofs must differ: laws, fires, changes and weeks of a town that a text tells. */
public final class UnlikeRoofs {
    public static final int BAD = -1, STATE = -2, FULL = -3, NONE = -9;
    public static final int NO = -1000000;

    private static final int MOST_HOUSES = 8;
    private static final int MOST_SORTS = 4;
    private static final int MOST_BYTES = 300;
    private static final int MOST_SEEN = 8;
    private static final int MOST_ITEMS = MOST_BYTES;
    private static final int IMAGES = 2;
    private static final int LAST_CELL = 7;
    private static final int LAST_WIND = 4;
    private static final int LAST_MINUTE = 99;
    private static final int LAST_YEAR = 99;
    private static final int LAST_KIND = 5;

    private static final int ENDED_ORDER = -5;
    private static final int BEFORE_FAULT = -10;

    /** The way each WIND blows: none, right, down, left, up. */
    private static final int[] RIGHTWARD = {0, 1, 0, -1, 0};
    private static final int[] DOWNWARD = {0, 0, 1, 0, -1};

    private final Text text;
    private final Tokens tokens;
    private final Search search;
    private final Fire flames;
    private final Seen seen;
    private final Rating rating;
    private final Image[] images;
    private Town told;
    private Town draft;
    private int drawn;

    public UnlikeRoofs() {
        text = new Text();
        tokens = new Tokens();
        search = new Search();
        flames = new Fire();
        seen = new Seen();
        rating = new Rating();
        images = new Image[IMAGES];
        for (int i = 0; i < images.length; i++) {
            images[i] = new Image();
        }
        told = new Town();
        draft = new Town();
        drawn = 1;
    }

    // ---- the town

    public int type(long v, int n) {
        if (n < 1 || n > 8) {
            return BAD;
        }
        return text.append(v, n) ? text.length : FULL;
    }

    public int clear() {
        return text.empty();
    }

    public int town() {
        draft.raze();
        tokens.split(text);
        int items = Reader.readAll(tokens, draft);
        if (items < 0) {
            return items;
        }
        Town old = told;
        told = draft;
        draft = old;
        text.empty();
        seen.empty();
        for (int i = 0; i < images.length; i++) {
            images[i].kept = false;
        }
        return items;
    }

    public int house(int h, int what) {
        if (!told.hasHouse(h)) {
            return BAD;
        }
        switch (what) {
            case 0:
                return told.xs[h];
            case 1:
                return told.ys[h];
            case 2:
                return told.roofs[h];
            case 3:
                return told.bounds[h];
            case 4:
                return Integer.bitCount(told.touched(h));
            default:
                return BAD;
        }
    }

    public int sort(int s, int what) {
        if (!told.hasSort(s) || !isFlag(what)) {
            return BAD;
        }
        return what == 0 ? told.priceOf(s) : told.burnOf(s);
    }

    public int roof(int h, int s) {
        if (!told.hasHouse(h) || (s != NONE && !told.hasSort(s))) {
            return BAD;
        }
        if (s != NONE && told.isBoundElse(h, s)) {
            return STATE;
        }
        int had = told.roofs[h];
        told.roofs[h] = s;
        return had;
    }

    public int wind(int w) {
        if (w < 0 || w > LAST_WIND) {
            return BAD;
        }
        int was = told.blowing;
        told.blowing = w;
        return was;
    }

    // ---- laws

    public int breaches(int sparks) {
        return isFlag(sparks) ? told.unlawfulPairs(sparks) : BAD;
    }

    public int cheapest(int sparks, int h) {
        if (!isFlag(sparks) || (h != -1 && !told.hasHouse(h))) {
            return BAD;
        }
        search.prepare(told, sparks);
        search.costPrices(told);
        return search.answer(h);
    }

    public int ways(int sparks) {
        if (!isFlag(sparks)) {
            return BAD;
        }
        search.prepare(told, sparks);
        return search.waysToRoof();
    }

    public int must(int sparks, int h) {
        if (!isFlag(sparks) || !told.hasHouse(h)) {
            return BAD;
        }
        search.prepare(told, sparks);
        return search.onlySort(h);
    }

    // ---- fires

    public int catches(int from, int h) {
        if (!told.hasHouse(from) || !told.hasHouse(h)) {
            return BAD;
        }
        return flames.burnFrom(told, from) ? flames.since[h] : STATE;
    }

    public int fire(int from, int what) {
        if (!told.hasHouse(from) || what < 0 || what > 2) {
            return BAD;
        }
        if (!flames.burnFrom(told, from)) {
            return STATE;
        }
        switch (what) {
            case 0:
                return flames.howMany();
            case 1:
                return flames.howMany() * told.priceOf(told.roofs[from]);
            default:
                return flames.lastCaught + told.burnOf(told.roofs[from]);
        }
    }

    public int worst() {
        int dearest = NONE;
        int most = 0;
        for (int h = 0; h < told.houses; h++) {
            int lost = pricesLost(h, told.blowing);
            if (lost > most) {
                most = lost;
                dearest = h;
            }
        }
        return dearest;
    }

    public int mean(int what) {
        int fires = 0;
        int lost = 0;
        for (int h = 0; h < told.houses; h++) {
            if (told.canBurn(h)) {
                fires++;
                lost += pricesLost(h, told.blowing);
            }
        }
        int common = greatestCommon(lost, fires);
        if (!isFlag(what) || fires == 0 || common == 0) {
            return NO;
        }
        return (what == 0 ? lost : fires) / common;
    }

    public int saw(int h, int minute) {
        boolean isMinute = minute == NONE || (minute >= 0 && minute <= LAST_MINUTE);
        if (!told.hasHouse(h) || !isMinute) {
            return BAD;
        }
        return seen.add(h, minute) ? seen.size : FULL;
    }

    public int forget() {
        return seen.empty();
    }

    public int began() {
        int bits = 0;
        for (int h = 0; h < told.houses; h++) {
            if (flames.burnFrom(told, h) && seen.fits(flames)) {
                bits |= 1 << h;
            }
        }
        return bits;
    }

    // ---- changes, payments, weeks

    public int change(int h, int s, int sparks, int g) {
        boolean isAsked = g == -1 || told.hasHouse(g);
        if (!told.hasHouse(h) || !told.hasSort(s) || !isFlag(sparks) || !isAsked) {
            return BAD;
        }
        if (told.isBoundElse(h, s) || told.howManyRoofs() < told.houses) {
            return STATE;
        }
        search.prepare(told, sparks);
        search.costChangesBut(told, h, s);
        return search.answer(g);
    }

    public int pays(int h) {
        if (!told.hasHouse(h)) {
            return NO;
        }
        int sum = 0;
        int touched = told.touched(h);
        for (int g = 0; g < told.houses; g++) {
            boolean paysOrIsPaid = (touched >> g & 1) == 1 && told.roofs[h] != NONE && told.roofs[g] != NONE;
            if (paysOrIsPaid) {
                // Division cuts towards 0, so both of a pair see the same half.
                sum += (told.priceOf(told.roofs[h]) - told.priceOf(told.roofs[g])) / 2;
            }
        }
        return sum;
    }

    public int order(int old, int sparks, int w) {
        if (!isFlag(sparks) || w < 0) {
            return BAD;
        }
        if (told.unlawfulPairs(sparks) > 0) {
            return NONE;
        }
        // Any part of a lawful town is lawful, so the least house left may always come next.
        int week = 0;
        for (int h = 0; h < told.houses; h++) {
            if (told.roofs[h] != NONE && (old >> h & 1) == 0) {
                if (week == w) {
                    return h;
                }
                week++;
            }
        }
        return ENDED_ORDER;
    }

    public int years(int n, int s) {
        if (n < 1 || n > LAST_YEAR || !told.hasSort(s) || told.houses == 0) {
            return NO;
        }
        int saved = 0;
        for (int year = 0; year < n; year++) {
            int from = nextDraw() % told.houses;
            int blowing = nextDraw() % (LAST_WIND + 1);
            saved += pricesLostIfAll(s, from, blowing) - pricesLost(from, blowing);
        }
        return saved;
    }

    public int lot(int v) {
        int was = drawn;
        drawn = v;
        return was;
    }

    // ---- kinds, images

    public int rate(int kind, int h) {
        if (kind < 0 || kind > LAST_KIND || !told.hasHouse(h)) {
            return NO;
        }
        return rating.of(told, kind, h);
    }

    public int keep(int image) {
        if (!isFlag(image) || image >= images.length) {
            return BAD;
        }
        images[image].take(told, drawn, seen);
        return seen.size;
    }

    public int back(int image) {
        if (!isFlag(image) || image >= images.length) {
            return BAD;
        }
        if (!images[image].kept) {
            return STATE;
        }
        images[image].giveBack(told, seen);
        drawn = images[image].drawn;
        return seen.size;
    }

    public int count(int what) {
        switch (what) {
            case 0:
                return told.houses;
            case 1:
                return told.sorts;
            case 2:
                return told.howManyRoofs();
            case 3:
                return told.pairsThatTouch();
            case 4:
                return seen.size;
            case 5:
                return text.length;
            default:
                return BAD;
        }
    }

    public long trace() {
        return rating.asked;
    }

    private static boolean isFlag(int v) {
        return v == 0 || v == 1;
    }

    private int pricesLost(int from, int blowing) {
        if (!told.canBurn(from)) {
            return 0;
        }
        int s = told.roofs[from];
        flames.spread(told, told.roofedWith(s), blowing, from);
        return flames.howMany() * told.priceOf(s);
    }

    private int pricesLostIfAll(int s, int from, int blowing) {
        if (told.burnOf(s) == 0) {
            return 0;
        }
        flames.spread(told, (1 << told.houses) - 1, blowing, from);
        return flames.howMany() * told.priceOf(s);
    }

    private int nextDraw() {
        drawn = drawn * 1103515245 + 12345;
        return drawn >>> 16;
    }

    private static int greatestCommon(int a, int b) {
        int big = a;
        int small = b;
        // Two ints are done in fewer than 50 of Euclid's steps.
        for (int step = 0; step < 64 && small != 0; step++) {
            int left = big % small;
            big = small;
            small = left;
        }
        return big;
    }

    /** The bytes that were typed and not yet read. */
    private static final class Text {
        private final int[] bytes = new int[MOST_BYTES];
        private int length;

        boolean append(long v, int n) {
            if (n < 1 || n > 8 || length > bytes.length - n) {
                return false;
            }
            for (int i = n - 1; i >= 0; i--) {
                bytes[length] = (int) (v >>> (8 * i)) & 255;
                length++;
            }
            return true;
        }

        int empty() {
            int had = length;
            length = 0;
            return had;
        }

        /** NONE behind the last byte. */
        int byteAt(int place) {
            return place >= 0 && place < length ? bytes[place] : NONE;
        }
    }

    /** The TOKENS of a text, an END behind them, and the one that is looked at. */
    private static final class Tokens {
        private static final int END = 0;
        private static final int WRONG = 1;
        private static final int STOP = 2;
        private static final int NUMBER = 3;
        private static final int SORT = 4;
        private static final int HOUSE = 5;
        private static final int ROOF = 6;
        private static final int BOUND = 7;
        private static final int WIND = 8;
        /** The five winds follow, in the order of their numbers. */
        private static final int CALM = 9;

        /** A TOKEN has a byte at least, so there are no more of them than bytes; and END. */
        private final int[] kinds = new int[MOST_BYTES + 1];
        private final int[] values = new int[MOST_BYTES + 1];
        private final int[] starts = new int[MOST_BYTES + 1];
        private int size;
        private int at;
        private int start;
        private int next;
        private int value;

        void split(Text text) {
            size = 0;
            at = 0;
            next = 0;
            int kind = WRONG;
            while (size < kinds.length && kind != END) {
                value = 0;
                kind = readOne(text);
                kinds[size] = kind;
                values[size] = value;
                starts[size] = start;
                size++;
            }
        }

        /** The last, END, is never left. */
        void advance() {
            if (at < size - 1) {
                at++;
            }
        }

        int kind() {
            return at < size ? kinds[at] : END;
        }

        int place() {
            return at < size ? starts[at] : 0;
        }

        /** NONE if it is no NUMBER from least to most. */
        int numberFrom(int least, int most) {
            boolean fits = kind() == NUMBER && values[at] >= least && values[at] <= most;
            return fits ? values[at] : NONE;
        }

        private int readOne(Text text) {
            while (next < text.length && text.byteAt(next) == ' ') {
                next++;
            }
            start = next;
            int first = text.byteAt(start);
            if (first == NONE) {
                return END;
            }
            if (isLetter(first)) {
                return readWord(text);
            }
            if (isDigit(first)) {
                return readNumber(text);
            }
            next++;
            return first == ';' ? STOP : WRONG;
        }

        private int readWord(Text text) {
            while (next < text.length && isLetter(text.byteAt(next))) {
                next++;
            }
            return spells(text, "sort") ? SORT
                : spells(text, "house") ? HOUSE
                : spells(text, "roof") ? ROOF
                : spells(text, "bound") ? BOUND
                : spells(text, "wind") ? WIND
                : spells(text, "none") ? CALM
                : spells(text, "right") ? CALM + 1
                : spells(text, "down") ? CALM + 2
                : spells(text, "left") ? CALM + 3
                : spells(text, "up") ? CALM + 4
                : WRONG;
        }

        private int readNumber(Text text) {
            while (next < text.length && isDigit(text.byteAt(next))) {
                // 100 stands for all that is above 99, so a long row of digits can't wrap.
                value = Math.min(100, value * 10 + text.byteAt(next) - '0');
                next++;
            }
            boolean zeroAhead = text.byteAt(start) == '0' && next - start > 1;
            return value > 99 || zeroAhead ? WRONG : NUMBER;
        }

        private boolean spells(Text text, String word) {
            if (word.length() != next - start) {
                return false;
            }
            for (int i = 0; i < word.length(); i++) {
                if (word.charAt(i) != text.byteAt(start + i)) {
                    return false;
                }
            }
            return true;
        }

        private static boolean isLetter(int b) {
            return b >= 'a' && b <= 'z';
        }

        private static boolean isDigit(int b) {
            return b >= '0' && b <= '9';
        }
    }

    /** Reads ITEMS into a town that has nothing yet; a read that fails stays on the TOKEN that can't stand there. */
    private static final class Reader {
        /** How many ITEMS, or -10 less FAULT. */
        static int readAll(Tokens tokens, Town town) {
            int items = 0;
            while (tokens.kind() != Tokens.END && items <= MOST_ITEMS) {
                if (!readItem(tokens, town)) {
                    return BEFORE_FAULT - tokens.place();
                }
                items++;
                tokens.advance();
            }
            return items;
        }

        private static boolean readItem(Tokens tokens, Town town) {
            switch (tokens.kind()) {
                case Tokens.SORT:
                    return readSort(tokens, town);
                case Tokens.HOUSE:
                    return readHouse(tokens, town);
                case Tokens.ROOF:
                    return readRoof(tokens, town);
                case Tokens.BOUND:
                    return readBound(tokens, town);
                case Tokens.WIND:
                    return readWind(tokens, town);
                default:
                    return false;
            }
        }

        private static boolean readSort(Tokens tokens, Town town) {
            if (town.sorts >= MOST_SORTS) {
                return false;
            }
            int price = number(tokens, 1, 99);
            if (price == NONE) {
                return false;
            }
            int burn = number(tokens, 0, 9);
            if (burn == NONE || !stop(tokens)) {
                return false;
            }
            town.addSort(price, burn);
            return true;
        }

        private static boolean readHouse(Tokens tokens, Town town) {
            if (town.houses >= MOST_HOUSES) {
                return false;
            }
            int x = number(tokens, 0, LAST_CELL);
            if (x == NONE) {
                return false;
            }
            int y = number(tokens, 0, LAST_CELL);
            if (y == NONE || town.bitAt(x, y) != 0 || !stop(tokens)) {
                return false;
            }
            town.addHouse(x, y);
            return true;
        }

        private static boolean readRoof(Tokens tokens, Town town) {
            int h = number(tokens, 0, town.houses - 1);
            if (h == NONE) {
                return false;
            }
            int s = number(tokens, 0, town.sorts - 1);
            if (s == NONE || town.isBoundElse(h, s) || !stop(tokens)) {
                return false;
            }
            town.roofs[h] = s;
            return true;
        }

        private static boolean readBound(Tokens tokens, Town town) {
            int h = number(tokens, 0, town.houses - 1);
            if (h == NONE || town.bounds[h] != NONE) {
                return false;
            }
            int s = number(tokens, 0, town.sorts - 1);
            if (s == NONE || !stop(tokens)) {
                return false;
            }
            town.bounds[h] = s;
            town.roofs[h] = s;
            return true;
        }

        private static boolean readWind(Tokens tokens, Town town) {
            if (town.windTold) {
                return false;
            }
            tokens.advance();
            int w = tokens.kind() - Tokens.CALM;
            if (w < 0 || w > LAST_WIND || !stop(tokens)) {
                return false;
            }
            town.blowing = w;
            town.windTold = true;
            return true;
        }

        /** NONE if the next TOKEN is no NUMBER from least to most. */
        private static int number(Tokens tokens, int least, int most) {
            tokens.advance();
            return tokens.numberFrom(least, most);
        }

        private static boolean stop(Tokens tokens) {
            tokens.advance();
            return tokens.kind() == Tokens.STOP;
        }
    }

    /** Cells, sorts and roofs as told; houses are named in sets by bits. */
    private static final class Town {
        private final int[] xs = new int[MOST_HOUSES];
        private final int[] ys = new int[MOST_HOUSES];
        private final int[] roofs = new int[MOST_HOUSES];
        private final int[] bounds = new int[MOST_HOUSES];
        private final int[] prices = new int[MOST_SORTS];
        private final int[] burns = new int[MOST_SORTS];
        private int houses;
        private int sorts;
        private int blowing;
        private boolean windTold;

        void raze() {
            houses = 0;
            sorts = 0;
            blowing = 0;
            windTold = false;
        }

        void addSort(int price, int burn) {
            if (sorts < MOST_SORTS) {
                prices[sorts] = price;
                burns[sorts] = burn;
                sorts++;
            }
        }

        void addHouse(int x, int y) {
            if (houses < MOST_HOUSES) {
                xs[houses] = x;
                ys[houses] = y;
                roofs[houses] = NONE;
                bounds[houses] = NONE;
                houses++;
            }
        }

        boolean hasHouse(int h) {
            return h >= 0 && h < houses;
        }

        boolean hasSort(int s) {
            return s >= 0 && s < sorts;
        }

        /** 0 for NONE. */
        int priceOf(int s) {
            return hasSort(s) ? prices[s] : 0;
        }

        /** 0 for NONE. */
        int burnOf(int s) {
            return hasSort(s) ? burns[s] : 0;
        }

        boolean isBoundElse(int h, int s) {
            return hasHouse(h) && bounds[h] != NONE && bounds[h] != s;
        }

        boolean canBurn(int h) {
            return hasHouse(h) && burnOf(roofs[h]) > 0;
        }

        int howManyRoofs() {
            return houses - Integer.bitCount(roofedWith(NONE));
        }

        int roofedWith(int s) {
            int bits = 0;
            for (int h = 0; h < houses; h++) {
                if (roofs[h] == s) {
                    bits |= 1 << h;
                }
            }
            return bits;
        }

        int bitAt(int x, int y) {
            for (int h = 0; h < houses; h++) {
                if (xs[h] == x && ys[h] == y) {
                    return 1 << h;
                }
            }
            return 0;
        }

        int touched(int h) {
            return around(h, 1);
        }

        /** The house that sparks of h reach; none without wind. */
        int sparked(int h, int w) {
            if (!hasHouse(h) || w < 1 || w > LAST_WIND) {
                return 0;
            }
            return bitAt(xs[h] + 2 * RIGHTWARD[w], ys[h] + 2 * DOWNWARD[w]);
        }

        /** The houses that may not be roofed like h. */
        int near(int h, int sparks) {
            return sparks == 1 ? around(h, 1) | around(h, 2) : around(h, 1);
        }

        /** The houses that lie so far off, straight to a side. */
        private int around(int h, int far) {
            if (!hasHouse(h)) {
                return 0;
            }
            int bits = 0;
            for (int g = 0; g < houses; g++) {
                int across = Math.abs(xs[g] - xs[h]);
                int down = Math.abs(ys[g] - ys[h]);
                if (across + down == far && (across == 0 || down == 0)) {
                    bits |= 1 << g;
                }
            }
            return bits;
        }

        int pairsThatTouch() {
            int ends = 0;
            for (int h = 0; h < houses; h++) {
                ends += Integer.bitCount(touched(h));
            }
            return ends / 2;
        }

        int unlawfulPairs(int sparks) {
            int ends = 0;
            for (int h = 0; h < houses; h++) {
                if (roofs[h] != NONE) {
                    ends += Integer.bitCount(near(h, sparks) & roofedWith(roofs[h]));
                }
            }
            return ends / 2;
        }
    }

    /** Looks for lawful rows of roofs, house by house, each house from sort 0 on. */
    private static final class Search {
        private static final int NOTHING_FOUND = 1000000;

        private final int[] near = new int[MOST_HOUSES];
        private final int[] allowed = new int[MOST_HOUSES];
        private final int[] picked = new int[MOST_HOUSES];
        private final int[] best = new int[MOST_HOUSES];
        private final int[] costs = new int[MOST_HOUSES * MOST_SORTS];
        /** What houses from one on cost at least. */
        private final int[] ahead = new int[MOST_HOUSES + 1];
        private int houses;
        private int sorts;
        private int least;

        /** All costs are 0 at first: then any lawful row is as good as another. */
        void prepare(Town town, int sparks) {
            houses = town.houses;
            sorts = town.sorts;
            for (int h = 0; h < houses; h++) {
                near[h] = town.near(h, sparks);
                allowed[h] = town.bounds[h] == NONE ? (1 << sorts) - 1 : 1 << town.bounds[h];
            }
            for (int i = 0; i < costs.length; i++) {
                costs[i] = 0;
            }
        }

        void costPrices(Town town) {
            for (int h = 0; h < houses; h++) {
                for (int s = 0; s < sorts; s++) {
                    costs[h * MOST_SORTS + s] = town.priceOf(s);
                }
            }
        }

        /** Each house that gets another roof costs 1, but the changed one: it gets s and nothing else. */
        void costChangesBut(Town town, int changed, int s) {
            for (int h = 0; h < houses; h++) {
                if (h == changed) {
                    allowed[h] = 1 << s;
                } else {
                    costOthers(h, town.roofs[h]);
                }
            }
        }

        private void costOthers(int h, int had) {
            for (int s = 0; s < sorts; s++) {
                costs[h * MOST_SORTS + s] = s == had ? 0 : 1;
            }
        }

        /** The sort of house h in the best row; with h -1 what that row costs; NONE. */
        int answer(int h) {
            if (!find()) {
                return NONE;
            }
            return h >= 0 && h < houses ? best[h] : least;
        }

        int onlySort(int h) {
            int only = NONE;
            if (h < 0 || h >= houses) {
                return NONE;
            }
            int may = allowed[h];
            for (int s = 0; s < sorts; s++) {
                allowed[h] = may & 1 << s;
                if (find()) {
                    if (only != NONE) {
                        return NONE;
                    }
                    only = s;
                }
            }
            return only;
        }

        int waysToRoof() {
            return waysFrom(this, 0);
        }

        private boolean find() {
            ahead[houses] = 0;
            for (int h = houses - 1; h >= 0; h--) {
                ahead[h] = ahead[h + 1] + leastCost(h);
            }
            least = NOTHING_FOUND;
            seek(this, 0, 0);
            return least < NOTHING_FOUND;
        }

        private int leastCost(int h) {
            int lowest = NOTHING_FOUND;
            for (int s = 0; s < sorts; s++) {
                if ((allowed[h] >> s & 1) == 1) {
                    lowest = Math.min(lowest, costs[h * MOST_SORTS + s]);
                }
            }
            return lowest;
        }

        /** The sorts that house h may have behind the picks of the houses ahead of it. */
        private int freeSorts(int h) {
            int free = allowed[h];
            for (int g = 0; g < h; g++) {
                if ((near[h] >> g & 1) == 1) {
                    free &= ~(1 << picked[g]);
                }
            }
            return free;
        }

        /** Only a cheaper row takes the place of one found before: so the first by sorts stays. */
        private static void seek(Search search, int h, int spent) {
            if (h >= search.houses || h >= MOST_HOUSES) {
                search.least = spent;
                System.arraycopy(search.picked, 0, search.best, 0, MOST_HOUSES);
                return;
            }
            int free = search.freeSorts(h);
            for (int s = 0; s < search.sorts; s++) {
                int cost = spent + search.costs[h * MOST_SORTS + s];
                if ((free >> s & 1) == 1 && cost + search.ahead[h + 1] < search.least) {
                    search.picked[h] = s;
                    seek(search, h + 1, cost);
                }
            }
        }

        private static int waysFrom(Search search, int h) {
            if (h >= search.houses || h >= MOST_HOUSES) {
                return 1;
            }
            int free = search.freeSorts(h);
            boolean bindsNoLater = search.near[h] >> (h + 1) == 0;
            if (bindsNoLater) {
                // Whatever it has, those behind it have as many ways: this keeps wide towns quick.
                return Integer.bitCount(free) * waysFrom(search, h + 1);
            }
            int sum = 0;
            for (int s = 0; s < search.sorts; s++) {
                if ((free >> s & 1) == 1) {
                    search.picked[h] = s;
                    sum += waysFrom(search, h + 1);
                }
            }
            return sum;
        }
    }

    /** One fire, from its first house to the last that it reaches. */
    private static final class Fire {
        private final int[] since = new int[MOST_HOUSES];
        private int burnt;
        private int lastCaught;

        /** False: the house can't burn. */
        boolean burnFrom(Town town, int from) {
            if (!town.canBurn(from)) {
                return false;
            }
            spread(town, town.roofedWith(town.roofs[from]), town.blowing, from);
            return true;
        }

        /**
         * The houses of alike have one sort, and it burns for a minute at least: so whatever a house
         * can set on fire catches in the first minute, and only those that caught last are looked at.
         */
        void spread(Town town, int alike, int wind, int from) {
            for (int h = 0; h < since.length; h++) {
                since[h] = NONE;
            }
            burnt = 0;
            int caught = 1 << from;
            for (int minute = 0; minute < MOST_HOUSES && caught != 0; minute++) {
                burnt |= caught;
                lastCaught = minute;
                int reached = 0;
                for (int h = 0; h < since.length; h++) {
                    if ((caught >> h & 1) == 1) {
                        since[h] = minute;
                        reached |= town.touched(h) | town.sparked(h, wind);
                    }
                }
                caught = reached & alike & ~burnt;
            }
        }

        int howMany() {
            return Integer.bitCount(burnt);
        }
    }

    /** What was seen of a fire. */
    private static final class Seen {
        private final int[] houses = new int[MOST_SEEN];
        private final int[] minutes = new int[MOST_SEEN];
        private int size;

        boolean add(int h, int minute) {
            if (size >= MOST_SEEN) {
                return false;
            }
            houses[size] = h;
            minutes[size] = minute;
            size++;
            return true;
        }

        int empty() {
            int had = size;
            size = 0;
            return had;
        }

        void copyOf(Seen other) {
            size = other.size;
            System.arraycopy(other.houses, 0, houses, 0, MOST_SEEN);
            System.arraycopy(other.minutes, 0, minutes, 0, MOST_SEEN);
        }

        boolean fits(Fire fire) {
            for (int i = 0; i < size; i++) {
                int h = houses[i];
                if (h < 0 || h >= MOST_HOUSES || fire.since[h] != minutes[i]) {
                    return false;
                }
            }
            return true;
        }
    }

    /** What keep() sets aside. */
    private static final class Image {
        private final int[] roofs = new int[MOST_HOUSES];
        private final Seen seen = new Seen();
        private int blowing;
        private int drawn;
        private boolean kept;

        void take(Town town, int lot, Seen from) {
            System.arraycopy(town.roofs, 0, roofs, 0, MOST_HOUSES);
            blowing = town.blowing;
            drawn = lot;
            seen.copyOf(from);
            kept = true;
        }

        void giveBack(Town town, Seen to) {
            System.arraycopy(roofs, 0, town.roofs, 0, MOST_HOUSES);
            town.blowing = blowing;
            to.copyOf(seen);
        }
    }

    /** RATE by KINDS: a body for each kind, which asks the kind above and leaves its mark on the trace. */
    private static final class Rating {
        private long asked;

        int of(Town town, int kind, int h) {
            switch (kind) {
                case 1:
                    return straw(town, h);
                case 2:
                    return slate(town, h);
                case 3:
                    return mossed(town, h);
                case 4:
                    return tarred(town, h);
                case 5:
                    return lead(town, h);
                default:
                    return plain(town, h);
            }
        }

        private int plain(Town town, int h) {
            asked += 1;
            return town.hasHouse(h) ? town.priceOf(town.roofs[h]) : 0;
        }

        private int straw(Town town, int h) {
            asked += 10;
            int burn = town.hasHouse(h) ? town.burnOf(town.roofs[h]) : 0;
            return plain(town, h) + burn;
        }

        private int slate(Town town, int h) {
            asked += 100;
            return plain(town, h) - Integer.bitCount(town.touched(h));
        }

        private int mossed(Town town, int h) {
            asked += 1000;
            return 2 * straw(town, h);
        }

        private int tarred(Town town, int h) {
            asked += 10000;
            return slate(town, h) + town.blowing;
        }

        private int lead(Town town, int h) {
            asked += 100000;
            return plain(town, h) - h;
        }
    }
}
