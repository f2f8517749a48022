import java.util.ArrayList;
import java.util.Arrays;
import java.util.List;
import java.util.regex.Matcher;
import java.util.regex.Pattern;

/**
 * The document once more, word by word and as slow as it likes: every row of roofs is tried, every minute of a fire
 * is looked at house by house. It shares nothing with the program, so that both are not wrong alike.
 */
final class PlainTown {
    static final int BAD = -1, STATE = -2, FULL = -3, NONE = -9, NO = -1000000;

    private static final Pattern TOKEN = Pattern.compile(" *([a-z]+|[0-9]+|[^ ])", Pattern.DOTALL);
    private static final List<String> WINDS = List.of("none", "right", "down", "left", "up");

    private record House(int x, int y) {
    }

    private record Sort(int price, int burn) {
    }

    private record Sight(int house, int minute) {
    }

    private record Image(int[] roofs, int wind, int lot, List<Sight> seen) {
    }

    private StringBuilder text = new StringBuilder();
    private List<House> houses = new ArrayList<>();
    private List<Sort> sorts = new ArrayList<>();
    private int[] roofs = new int[0];
    private int[] bounds = new int[0];
    private int wind = 0;
    private List<Sight> seen = new ArrayList<>();
    private Image[] images = new Image[2];
    private int lot = 1;
    private long trace = 0;

    long type(long v, int n) {
        if (n < 1 || n > 8) {
            return BAD;
        }
        if (text.length() + n > 300) {
            return FULL;
        }
        for (int i = n; i >= 1; i--) {
            text.append((char) ((v >> 8 * (i - 1)) & 0xff));
        }
        return text.length();
    }

    long clear() {
        int had = text.length();
        text = new StringBuilder();
        return had;
    }

    // ---- the text: a list of tokens, then rules for each item by its place

    private static final class Fault extends RuntimeException {
        private final int place;

        Fault(int place) {
            this.place = place;
        }
    }

    private record Token(String word, int place) {
    }

    private List<Token> tokens() {
        List<Token> all = new ArrayList<>();
        Matcher m = TOKEN.matcher(text);
        int from = 0;
        while (m.find(from)) {
            all.add(new Token(m.group(1), m.start(1)));
            from = m.end();
        }
        all.add(new Token("", text.length()));
        return all;
    }

    long town() {
        List<House> newHouses = new ArrayList<>();
        List<Sort> newSorts = new ArrayList<>();
        int[] newRoofs = new int[8];
        int[] newBounds = new int[8];
        Arrays.fill(newRoofs, NONE);
        Arrays.fill(newBounds, NONE);
        int newWind = NONE;
        int items = 0;
        List<Token> all = tokens();
        try {
            int at = 0;
            while (!all.get(at).word.isEmpty()) {
                Token first = all.get(at);
                int size = 3;
                switch (first.word) {
                    case "sort" -> {
                        must(newSorts.size() < 4, first);
                        int price = number(all.get(at + 1), 1, 99);
                        newSorts.add(new Sort(price, number(all.get(at + 2), 0, 9)));
                    }
                    case "house" -> {
                        must(newHouses.size() < 8, first);
                        int x = number(all.get(at + 1), 0, 7);
                        House house = new House(x, number(all.get(at + 2), 0, 7));
                        must(!newHouses.contains(house), all.get(at + 2));
                        newHouses.add(house);
                    }
                    case "roof" -> {
                        int h = number(all.get(at + 1), 0, newHouses.size() - 1);
                        int s = number(all.get(at + 2), 0, newSorts.size() - 1);
                        must(newBounds[h] == NONE || newBounds[h] == s, all.get(at + 2));
                        newRoofs[h] = s;
                    }
                    case "bound" -> {
                        int h = number(all.get(at + 1), 0, newHouses.size() - 1);
                        must(newBounds[h] == NONE, all.get(at + 1));
                        newBounds[h] = number(all.get(at + 2), 0, newSorts.size() - 1);
                        newRoofs[h] = newBounds[h];
                    }
                    case "wind" -> {
                        must(newWind == NONE, first);
                        newWind = WINDS.indexOf(all.get(at + 1).word);
                        must(newWind >= 0, all.get(at + 1));
                        size = 2;
                    }
                    default -> must(false, first);
                }
                must(all.get(at + size).word.equals(";"), all.get(at + size));
                at += size + 1;
                items++;
            }
        } catch (Fault fault) {
            return -10 - fault.place;
        }
        houses = newHouses;
        sorts = newSorts;
        roofs = Arrays.copyOf(newRoofs, houses.size());
        bounds = Arrays.copyOf(newBounds, houses.size());
        wind = newWind == NONE ? 0 : newWind;
        seen = new ArrayList<>();
        images = new Image[2];
        text = new StringBuilder();
        return items;
    }

    private static void must(boolean good, Token token) {
        if (!good) {
            throw new Fault(token.place);
        }
    }

    private static int number(Token token, int least, int most) {
        must(token.word.matches("0|[1-9][0-9]?"), token);
        int v = Integer.parseInt(token.word);
        must(v >= least && v <= most, token);
        return v;
    }

    // ---- asking and setting

    private boolean isHouse(int h) {
        return h >= 0 && h < houses.size();
    }

    private boolean isSort(int s) {
        return s >= 0 && s < sorts.size();
    }

    private static boolean isSparks(int sparks) {
        return sparks == 0 || sparks == 1;
    }

    private boolean touch(int a, int b) {
        int dx = Math.abs(houses.get(a).x - houses.get(b).x);
        int dy = Math.abs(houses.get(a).y - houses.get(b).y);
        return dx + dy == 1;
    }

    private boolean throwsTo(int a, int b, int w) {
        int dx = houses.get(b).x - houses.get(a).x;
        int dy = houses.get(b).y - houses.get(a).y;
        return switch (w) {
            case 1 -> dx == 2 && dy == 0;
            case 2 -> dx == 0 && dy == 2;
            case 3 -> dx == -2 && dy == 0;
            case 4 -> dx == 0 && dy == -2;
            default -> false;
        };
    }

    private boolean forbidden(int a, int b, int sparks) {
        boolean near = touch(a, b);
        for (int w = 1; w <= 4; w++) {
            near |= sparks == 1 && (throwsTo(a, b, w) || throwsTo(b, a, w));
        }
        return near;
    }

    long house(int h, int what) {
        if (!isHouse(h) || what < 0 || what > 4) {
            return BAD;
        }
        int touched = 0;
        for (int g = 0; g < houses.size(); g++) {
            touched += touch(h, g) ? 1 : 0;
        }
        return new int[] {houses.get(h).x, houses.get(h).y, roofs[h], bounds[h], touched}[what];
    }

    long sort(int s, int what) {
        if (!isSort(s) || what < 0 || what > 1) {
            return BAD;
        }
        return what == 0 ? sorts.get(s).price : sorts.get(s).burn;
    }

    long roof(int h, int s) {
        if (!isHouse(h) || !(isSort(s) || s == NONE)) {
            return BAD;
        }
        if (s != NONE && bounds[h] != NONE && bounds[h] != s) {
            return STATE;
        }
        int had = roofs[h];
        roofs[h] = s;
        return had;
    }

    long wind(int w) {
        if (w < 0 || w > 4) {
            return BAD;
        }
        int was = wind;
        wind = w;
        return was;
    }

    // ---- laws

    private int breachesOf(int[] row, int sparks) {
        int pairs = 0;
        for (int a = 0; a < row.length; a++) {
            for (int b = a + 1; b < row.length; b++) {
                pairs += row[a] != NONE && row[a] == row[b] && forbidden(a, b, sparks) ? 1 : 0;
            }
        }
        return pairs;
    }

    long breaches(int sparks) {
        return isSparks(sparks) ? breachesOf(roofs, sparks) : BAD;
    }

    /** All lawful rows, the first by house 0, then 1, .. first. */
    private List<int[]> lawfulRows(int sparks) {
        List<int[]> rows = new ArrayList<>();
        rows.add(new int[0]);
        for (int h = 0; h < houses.size(); h++) {
            List<int[]> longer = new ArrayList<>();
            for (int[] row : rows) {
                for (int s = 0; s < sorts.size(); s++) {
                    int[] next = Arrays.copyOf(row, h + 1);
                    next[h] = s;
                    if ((bounds[h] == NONE || bounds[h] == s) && breachesOf(next, sparks) == 0) {
                        longer.add(next);
                    }
                }
            }
            rows = longer;
        }
        return rows;
    }

    long cheapest(int sparks, int h) {
        if (!isSparks(sparks) || !(h == -1 || isHouse(h))) {
            return BAD;
        }
        int[] best = null;
        int least = 0;
        for (int[] row : lawfulRows(sparks)) {
            int price = 0;
            for (int s : row) {
                price += sorts.get(s).price;
            }
            if (best == null || price < least) {
                best = row;
                least = price;
            }
        }
        if (best == null) {
            return NONE;
        }
        return h == -1 ? least : best[h];
    }

    long ways(int sparks) {
        return isSparks(sparks) ? lawfulRows(sparks).size() : BAD;
    }

    long must(int sparks, int h) {
        if (!isSparks(sparks) || !isHouse(h)) {
            return BAD;
        }
        long[] sortsOfH = lawfulRows(sparks).stream().mapToLong(row -> row[h]).distinct().toArray();
        return sortsOfH.length == 1 ? sortsOfH[0] : NONE;
    }

    // ---- fires

    private boolean burns(int[] row, int h) {
        return row[h] != NONE && sorts.get(row[h]).burn > 0;
    }

    private int[] fireSince(int[] row, int blowing, int from) {
        int[] since = new int[row.length];
        Arrays.fill(since, NONE);
        since[from] = 0;
        for (int m = 1; m <= 120; m++) {
            int[] next = since.clone();
            for (int a = 0; a < row.length; a++) {
                boolean burnsNow = since[a] != NONE && since[a] <= m - 1 && since[a] + sorts.get(row[a]).burn > m - 1;
                for (int b = 0; burnsNow && b < row.length; b++) {
                    boolean reached = touch(a, b) || throwsTo(a, b, blowing);
                    if (since[b] == NONE && row[b] == row[a] && reached) {
                        next[b] = m;
                    }
                }
            }
            since = next;
        }
        return since;
    }

    private int[] lossOf(int[] row, int blowing, int from) {
        int[] loss = new int[3];
        if (!burns(row, from)) {
            return loss;
        }
        int[] since = fireSince(row, blowing, from);
        for (int h = 0; h < row.length; h++) {
            if (since[h] != NONE) {
                loss[0]++;
                loss[1] += sorts.get(row[h]).price;
                loss[2] = Math.max(loss[2], since[h] + sorts.get(row[h]).burn);
            }
        }
        return loss;
    }

    long catches(int from, int h) {
        if (!isHouse(from) || !isHouse(h)) {
            return BAD;
        }
        return burns(roofs, from) ? fireSince(roofs, wind, from)[h] : STATE;
    }

    long fire(int from, int what) {
        if (!isHouse(from) || what < 0 || what > 2) {
            return BAD;
        }
        return burns(roofs, from) ? lossOf(roofs, wind, from)[what] : STATE;
    }

    long worst() {
        int worst = NONE;
        for (int h = houses.size() - 1; h >= 0; h--) {
            boolean worse = worst == NONE || lossOf(roofs, wind, h)[1] >= lossOf(roofs, wind, worst)[1];
            worst = burns(roofs, h) && worse ? h : worst;
        }
        return worst;
    }

    long mean(int what) {
        int sum = 0;
        int fires = 0;
        for (int h = 0; h < houses.size(); h++) {
            sum += lossOf(roofs, wind, h)[1];
            fires += burns(roofs, h) ? 1 : 0;
        }
        if (what < 0 || what > 1 || fires == 0) {
            return NO;
        }
        for (int d = fires; d >= 2; d--) {
            while (sum % d == 0 && fires % d == 0) {
                sum /= d;
                fires /= d;
            }
        }
        return what == 0 ? sum : fires;
    }

    long saw(int h, int minute) {
        if (!isHouse(h) || !(minute == NONE || (minute >= 0 && minute <= 99))) {
            return BAD;
        }
        if (seen.size() == 8) {
            return FULL;
        }
        seen.add(new Sight(h, minute));
        return seen.size();
    }

    long forget() {
        int had = seen.size();
        seen = new ArrayList<>();
        return had;
    }

    long began() {
        int bits = 0;
        for (int h = 0; h < houses.size(); h++) {
            if (burns(roofs, h)) {
                int[] since = fireSince(roofs, wind, h);
                bits |= seen.stream().allMatch(s -> since[s.house] == s.minute) ? 1 << h : 0;
            }
        }
        return bits;
    }

    // ---- changes, payments, weeks

    private boolean allRoofed() {
        return Arrays.stream(roofs).allMatch(s -> s != NONE);
    }

    long change(int h, int s, int sparks, int g) {
        if (!isHouse(h) || !isSort(s) || !isSparks(sparks) || !(g == -1 || isHouse(g))) {
            return BAD;
        }
        if ((bounds[h] != NONE && bounds[h] != s) || !allRoofed()) {
            return STATE;
        }
        int[] best = null;
        int fewest = 0;
        for (int[] row : lawfulRows(sparks)) {
            int others = 0;
            for (int o = 0; o < row.length; o++) {
                others += o != h && row[o] != roofs[o] ? 1 : 0;
            }
            if (row[h] == s && (best == null || others < fewest)) {
                best = row;
                fewest = others;
            }
        }
        if (best == null) {
            return NONE;
        }
        return g == -1 ? fewest : best[g];
    }

    long pays(int h) {
        if (!isHouse(h)) {
            return NO;
        }
        int sum = 0;
        for (int g = 0; g < houses.size(); g++) {
            if (touch(h, g) && roofs[h] != NONE && roofs[g] != NONE && roofs[h] != roofs[g]) {
                int mine = sorts.get(roofs[h]).price;
                int other = sorts.get(roofs[g]).price;
                sum += mine > other ? (mine - other) / 2 : -((other - mine) / 2);
            }
        }
        return sum;
    }

    /** Every next week is tried with each house that is left, least first, and looked at as lawful or not. */
    long order(int old, int sparks, int w) {
        if (!isSparks(sparks) || w < 0) {
            return BAD;
        }
        if (breachesOf(roofs, sparks) > 0) {
            return NONE;
        }
        int[] row = roofs.clone();
        for (int h = 0; h < row.length; h++) {
            row[h] = (old & 1 << h) != 0 ? row[h] : NONE;
        }
        for (int week = 0; week < 9; week++) {
            int came = NONE;
            for (int h = 0; h < row.length && came == NONE; h++) {
                if (row[h] == NONE && roofs[h] != NONE) {
                    row[h] = roofs[h];
                    came = breachesOf(row, sparks) == 0 ? h : NONE;
                }
            }
            if (came == NONE) {
                return -5;
            }
            if (week == w) {
                return came;
            }
        }
        return -5;
    }

    private int draw() {
        lot = (int) (lot * 1103515245L + 12345L);
        return (int) ((lot & 0xffffffffL) / 65536L);
    }

    long years(int n, int s) {
        if (n < 1 || n > 99 || !isSort(s) || houses.isEmpty()) {
            return NO;
        }
        int[] alike = new int[roofs.length];
        Arrays.fill(alike, s);
        int former = 0;
        int latter = 0;
        for (int i = 0; i < n; i++) {
            int from = draw() % houses.size();
            int blowing = draw() % 5;
            former += lossOf(roofs, blowing, from)[1];
            latter += lossOf(alike, blowing, from)[1];
        }
        return latter - former;
    }

    long lot(int v) {
        int was = lot;
        lot = v;
        return was;
    }

    // ---- kinds, images

    private class Roof {
        int rate(int h) {
            trace += 1;
            return roofs[h] == NONE ? 0 : sorts.get(roofs[h]).price;
        }
    }

    private class Straw extends Roof {
        @Override
        int rate(int h) {
            trace += 10;
            return super.rate(h) + (roofs[h] == NONE ? 0 : sorts.get(roofs[h]).burn);
        }
    }

    private class Slate extends Roof {
        @Override
        int rate(int h) {
            trace += 100;
            return super.rate(h) - (int) house(h, 4);
        }
    }

    private class Mossed extends Straw {
        @Override
        int rate(int h) {
            trace += 1000;
            int up = super.rate(h);
            return up + up;
        }
    }

    private class Tarred extends Slate {
        @Override
        int rate(int h) {
            trace += 10000;
            return super.rate(h) + wind;
        }
    }

    private class Lead extends Roof {
        @Override
        int rate(int h) {
            trace += 100000;
            return super.rate(h) - h;
        }
    }

    long rate(int kind, int h) {
        Roof[] kinds = {new Roof(), new Straw(), new Slate(), new Mossed(), new Tarred(), new Lead()};
        return kind < 0 || kind >= kinds.length || !isHouse(h) ? NO : kinds[kind].rate(h);
    }

    long keep(int image) {
        if (image < 0 || image > 1) {
            return BAD;
        }
        images[image] = new Image(roofs.clone(), wind, lot, List.copyOf(seen));
        return seen.size();
    }

    long back(int image) {
        if (image < 0 || image > 1) {
            return BAD;
        }
        Image kept = images[image];
        if (kept == null) {
            return STATE;
        }
        roofs = kept.roofs.clone();
        wind = kept.wind;
        lot = kept.lot;
        seen = new ArrayList<>(kept.seen);
        return seen.size();
    }

    long count(int what) {
        int pairs = 0;
        for (int a = 0; a < houses.size(); a++) {
            for (int b = a + 1; b < houses.size(); b++) {
                pairs += touch(a, b) ? 1 : 0;
            }
        }
        return switch (what) {
            case 0 -> houses.size();
            case 1 -> sorts.size();
            case 2 -> Arrays.stream(roofs).filter(s -> s != NONE).count();
            case 3 -> pairs;
            case 4 -> seen.size();
            case 5 -> text.length();
            default -> BAD;
        };
    }

    long trace() {
        return trace;
    }
}
