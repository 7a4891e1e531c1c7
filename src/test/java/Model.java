import java.util.ArrayList;
import java.util.Arrays;
import java.util.HashSet;
import java.util.List;
import java.util.Set;

/** A second program for the same document: it tries out, as far as it can, what DaysLent reckons. */
final class Model {
    static final int UNKNOWN = -1, BAD = -2, LATE = -3, FULL = -4, NONE = -9;

    record Debt(int to, int by, int much, int due) {
    }

    record Day(int who, int when, boolean seen) {
    }

    private static final class World {
        final int[] mornings;
        final int[] asks;
        final boolean[] alive;
        final boolean[] broken;
        final List<Debt> debts;
        int week;

        World(int people) {
            mornings = new int[people];
            asks = new int[people];
            alive = new boolean[people];
            broken = new boolean[people];
            debts = new ArrayList<>();
            Arrays.fill(alive, true);
        }

        World(World o) {
            mornings = o.mornings.clone();
            asks = o.asks.clone();
            alive = o.alive.clone();
            broken = o.broken.clone();
            debts = new ArrayList<>(o.debts);
            week = o.week;
        }
    }

    private String text = "";
    private World w = new World(0);
    private final List<World> acts = new ArrayList<>();
    private final World[] slots = new World[2];
    private final List<Day> days = new ArrayList<>();

    private int n() {
        return w.mornings.length;
    }

    private boolean no(int p) {
        return p < 0 || p >= n();
    }

    private static int bits(boolean[] flags) {
        int set = 0;
        for (int p = 0; p < flags.length; p++) {
            set += flags[p] ? 1 << p : 0;
        }
        return set;
    }

    // ---- the book

    int write(int n, long v) {
        if (n < 1 || n > 8) {
            return BAD;
        }
        if (text.length() + n > 80) {
            return FULL;
        }
        StringBuilder piece = new StringBuilder();
        for (int i = 0; i < n; i++) {
            piece.append((char) (v & 0xFF));
            v >>= 8;
        }
        text += piece.reverse();
        return text.length();
    }

    int wipe() {
        int before = text.length();
        text = "";
        return before;
    }

    /** All parts that may come next, each as a whole, by how many people there are and if there is room for a debt. */
    private static final List<Set<String>> PARTS = new ArrayList<>();

    static {
        for (int people = 0; people <= 6; people++) {
            PARTS.add(nextParts(people, 0));
            PARTS.add(nextParts(people, 8));
        }
    }

    private static Set<String> nextParts(int people, int debts) {
        Set<String> parts = new HashSet<>();
        if (people < 6) {
            for (int i = 0; i < 1000; i++) {
                parts.add(String.format("P%03d", i));
            }
        }
        for (int i = 0; i < people && debts < 8; i++) {
            for (int j = 0; j < people; j++) {
                for (int k = 11; k < 1000 && i != j; k++) {
                    if (k % 10 != 0) {
                        parts.add("D" + i + j + (k < 100 ? "0" : "") + k);
                    }
                }
            }
        }
        return parts;
    }

    private static boolean isBeginning(Set<String> parts, String piece) {
        for (String part : parts) {
            if (part.startsWith(piece)) {
                return true;
            }
        }
        return false;
    }

    int fault() {
        int people = 0;
        int debts = 0;
        int start = 0;
        while (start < text.length()) {
            Set<String> parts = PARTS.get(2 * people + (debts < 8 ? 0 : 1));
            int end = start;
            do {
                end++;
                if (end > text.length()) {
                    return text.length();
                }
                if (!isBeginning(parts, text.substring(start, end))) {
                    return end - 1;
                }
            } while (!parts.contains(text.substring(start, end)));
            people += text.charAt(start) == 'P' ? 1 : 0;
            debts += text.charAt(start) == 'D' ? 1 : 0;
            start = end;
        }
        return NONE;
    }

    int book() {
        if (fault() != NONE) {
            return LATE;
        }
        w = new World((int) text.chars().filter(c -> c == 'P').count());
        int p = 0;
        for (String part : text.split("(?=[PD])")) {
            if (part.startsWith("P")) {
                w.mornings[p] = Integer.parseInt(part.substring(1, 3));
                w.asks[p++] = Integer.parseInt(part.substring(3));
            } else if (part.startsWith("D")) {
                w.debts.add(new Debt(part.charAt(1) - '0', part.charAt(2) - '0', Integer.parseInt(part.substring(3, 5)),
                        part.charAt(5) - '0'));
            }
        }
        acts.clear();
        slots[0] = null;
        slots[1] = null;
        return p;
    }

    int about(int what) {
        return switch (what) {
            case 0 -> n();
            case 1 -> w.debts.size();
            case 2 -> w.week;
            case 3 -> acts.size();
            case 4 -> bits(w.alive);
            case 5 -> bits(w.broken);
            case 6 -> Arrays.stream(w.mornings).sum();
            case 7 -> w.debts.stream().mapToInt(Debt::much).sum();
            case 8 -> days.size();
            case 9 -> text.length();
            default -> BAD;
        };
    }

    private int owes(int p) {
        return w.debts.stream().filter(d -> d.by == p).mapToInt(Debt::much).sum();
    }

    private int isOwed(int p) {
        return w.debts.stream().filter(d -> d.to == p).mapToInt(Debt::much).sum();
    }

    int person(int p, int what) {
        if (no(p)) {
            return UNKNOWN;
        }
        return switch (what) {
            case 0 -> w.mornings[p];
            case 1 -> w.asks[p];
            case 2 -> w.alive[p] ? 1 : 0;
            case 3 -> w.broken[p] ? 1 : 0;
            case 4 -> owes(p);
            case 5 -> isOwed(p);
            case 6 -> 10000 + isOwed(p) - owes(p);
            default -> BAD;
        };
    }

    int debt(int debt, int what) {
        if (debt < 0 || debt >= w.debts.size()) {
            return UNKNOWN;
        }
        Debt d = w.debts.get(debt);
        return switch (what) {
            case 0 -> d.to;
            case 1 -> d.by;
            case 2 -> d.much;
            case 3 -> d.due;
            default -> BAD;
        };
    }

    int ask(int p, int r) {
        if (no(p)) {
            return UNKNOWN;
        }
        if (r < 0 || r > 9) {
            return BAD;
        }
        int before = w.asks[p];
        w.asks[p] = r;
        return before;
    }

    // ---- acts

    private void act() {
        acts.add(new World(w));
        if (acts.size() > 10) {
            acts.remove(0);
        }
    }

    int lend(int i, int j, int a, int weeks) {
        if (no(i) || no(j)) {
            return UNKNOWN;
        }
        if (i == j || a < 1 || a > 99 || weeks < 1 || weeks > 9) {
            return BAD;
        }
        int owed = a + w.asks[i] * (a / 2 + a % 2);
        if (w.mornings[i] < a || !w.alive[i] || !w.alive[j] || w.broken[j] || owes(j) + owed > 80) {
            return LATE;
        }
        if (w.debts.size() == 12) {
            return FULL;
        }
        act();
        w.mornings[i] -= a;
        w.mornings[j] += a;
        w.debts.add(new Debt(i, j, owed, w.week + weeks));
        return owed;
    }

    int week() {
        act();
        int before = bits(w.broken);
        w.week++;
        for (Debt d : List.copyOf(w.debts)) {
            if (d.due == w.week) {
                for (int k = 0; k < d.much; k++) {
                    if (w.mornings[d.by] == 0) {
                        w.broken[d.by] = true;
                    } else {
                        w.mornings[d.by]--;
                        w.mornings[d.to]++;
                    }
                }
            }
        }
        w.debts.removeIf(d -> d.due == w.week);
        for (int p = 0; p < n() && w.week % 4 == 0; p++) {
            w.mornings[p] = w.mornings[p] > 20 ? 20 : w.mornings[p];
        }
        return bits(w.broken) - before;
    }

    int heirs(int p, int heirs) {
        if (no(p)) {
            return UNKNOWN;
        }
        if (heirs < 1 || heirs >= 1 << n() || (heirs & 1 << p) != 0) {
            return BAD;
        }
        List<Integer> who = new ArrayList<>();
        for (int q = 0; q < n(); q++) {
            if ((heirs & 1 << q) != 0) {
                who.add(q);
            }
        }
        if (!w.alive[p] || who.stream().anyMatch(q -> !w.alive[q])) {
            return LATE;
        }
        act();
        w.alive[p] = false;
        while (w.mornings[p] >= who.size()) {
            for (int q : who) {
                w.mornings[q]++;
                w.mornings[p]--;
            }
        }
        int least = who.get(0);
        w.mornings[least] += w.mornings[p];
        w.mornings[p] = 0;
        int before = w.debts.size();
        w.debts.replaceAll(d -> new Debt(d.to == p ? least : d.to, d.by == p ? least : d.by, d.much, d.due));
        w.debts.removeIf(d -> d.to == d.by);
        return before - w.debts.size();
    }

    int jubilee() {
        act();
        int gone = w.debts.size();
        w.debts.clear();
        Arrays.fill(w.broken, false);
        return gone;
    }

    int undo() {
        if (acts.isEmpty()) {
            return LATE;
        }
        w = acts.remove(acts.size() - 1);
        return acts.size();
    }

    // ---- settled

    int fewest() {
        int[] nets = new int[n()];
        for (int p = 0; p < n(); p++) {
            nets[p] = isOwed(p) - owes(p);
        }
        return settle(nets, 0);
    }

    /** The first one that is not settled pays, or is paid, all of it: to or by each other one in turn. */
    private static int settle(int[] nets, int from) {
        int first = from;
        while (first < nets.length && nets[first] == 0) {
            first++;
        }
        if (first == nets.length) {
            return 0;
        }
        int best = Integer.MAX_VALUE;
        for (int other = first + 1; other < nets.length; other++) {
            if (nets[other] * nets[first] < 0) {
                nets[other] += nets[first];
                best = Math.min(best, 1 + settle(nets, first + 1));
                nets[other] -= nets[first];
            }
        }
        return best;
    }

    int falls(int people) {
        if (people < 0 || people >= 1 << n()) {
            return BAD;
        }
        int greatest = 0;
        for (int set = 0; set < 1 << n(); set++) {
            if ((set & people) == 0 && allCanPay(set)) {
                greatest |= set;
            }
        }
        return (1 << n()) - 1 - greatest;
    }

    private boolean allCanPay(int set) {
        for (int p = 0; p < n(); p++) {
            int has = w.mornings[p];
            for (Debt d : w.debts) {
                has += d.to == p && (set & 1 << d.by) != 0 ? d.much : 0;
            }
            if ((set & 1 << p) != 0 && has < owes(p)) {
                return false;
            }
        }
        return true;
    }

    private List<Integer> bestRing;

    private List<Integer> findRing(int p) {
        bestRing = null;
        walk(p, p, new ArrayList<>(), 1 << p);
        return bestRing;
    }

    private void walk(int home, int at, List<Integer> way, int met) {
        for (int number = 0; number < w.debts.size(); number++) {
            Debt d = w.debts.get(number);
            if (d.by != at) {
                continue;
            }
            way.add(number);
            if (d.to == home) {
                // ways come in the order of their numbers, so the first of like length is the first by number
                if (bestRing == null || way.size() < bestRing.size()) {
                    bestRing = new ArrayList<>(way);
                }
            } else if ((met & 1 << d.to) == 0) {
                walk(home, d.to, way, met | 1 << d.to);
            }
            way.remove(way.size() - 1);
        }
    }

    int ring(int p) {
        if (no(p)) {
            return UNKNOWN;
        }
        List<Integer> way = findRing(p);
        return way == null ? NONE : way.size();
    }

    int room(int p) {
        if (no(p)) {
            return UNKNOWN;
        }
        List<Integer> way = findRing(p);
        return way == null ? NONE : way.stream().mapToInt(number -> w.debts.get(number).much).min().getAsInt();
    }

    // ---- wishes, runs

    private static final double MOST_TRIES = 20000;

    private int[] bestShares;
    private int bestPrice;

    /** All shares are tried, in the order of the document: the first cheapest one is the one. */
    private void share(int wisher, int p, int left, int price, int[] shares) {
        if (p == n()) {
            if (left == 0 && (bestShares == null || price < bestPrice)) {
                bestShares = shares.clone();
                bestPrice = price;
            }
            return;
        }
        int most = p == wisher || !w.alive[p] ? 0 : Math.min(left, w.mornings[p]);
        for (int part = 0; part <= most; part++) {
            shares[p] = part;
            share(wisher, p + 1, left - part, price + (part + 1) / 2 * w.asks[p], shares);
        }
        shares[p] = 0;
    }

    private double sharesToTry(int wisher, int a) {
        double tries = 1;
        for (int p = 0; p < n(); p++) {
            tries *= p == wisher || !w.alive[p] ? 1 : 1 + Math.min(a, w.mornings[p]);
        }
        return tries;
    }

    private record Shares(int price, int[] by) {
        boolean isAhead(Shares o) {
            return o == null || price < o.price || price == o.price && Arrays.compare(by, o.by) < 0;
        }
    }

    /** Where all shares are too many to try: for each sum the best shares of the first people, one more at a time. */
    private void shareBySums(int wisher, int a) {
        Shares[] best = new Shares[a + 1];
        best[0] = new Shares(0, new int[n()]);
        for (int p = 0; p < n(); p++) {
            Shares[] next = new Shares[a + 1];
            int most = p == wisher || !w.alive[p] ? 0 : w.mornings[p];
            for (int sum = 0; sum <= a; sum++) {
                for (int part = 0; part <= Math.min(most, sum); part++) {
                    if (best[sum - part] != null) {
                        int[] by = best[sum - part].by.clone();
                        by[p] = part;
                        Shares one = new Shares(best[sum - part].price + (part + 1) / 2 * w.asks[p], by);
                        next[sum] = one.isAhead(next[sum]) ? one : next[sum];
                    }
                }
            }
            best = next;
        }
        if (best[a] != null) {
            bestShares = best[a].by;
            bestPrice = best[a].price;
        }
    }

    private int findShares(int p, int a) {
        if (no(p)) {
            return UNKNOWN;
        }
        if (a < 1 || a > 99) {
            return BAD;
        }
        if (!w.alive[p]) {
            return LATE;
        }
        bestShares = null;
        if (sharesToTry(p, a) <= MOST_TRIES) {
            share(p, 0, a, 0, new int[n()]);
        } else {
            shareBySums(p, a);
        }
        return bestShares == null ? NONE : 0;
    }

    int wish(int p, int a) {
        int found = findShares(p, a);
        return found == 0 ? bestPrice : found;
    }

    int wishBy(int p, int a, int other) {
        if (no(p) || no(other)) {
            return UNKNOWN;
        }
        int found = findShares(p, a);
        return found == 0 ? bestShares[other] : found;
    }

    /** Of 10 to the number of creditors ways: in how many no more than the mornings is asked. */
    private long[] ways(int p, int x, int mornings) {
        int[] much = new int[n()];
        for (Debt d : w.debts) {
            much[d.to] += d.by == p ? d.much : 0;
        }
        int[] creditors = Arrays.stream(much).filter(m -> m > 0).toArray();
        return new long[] {count(creditors, 0, x, mornings), Math.round(Math.pow(10, creditors.length))};
    }

    private static long count(int[] much, int at, int x, int left) {
        if (left < 0) {
            return 0;
        }
        if (at == much.length) {
            return 1;
        }
        return x * count(much, at + 1, x, left - much[at]) + (10 - x) * count(much, at + 1, x, left);
    }

    long run(int p, int x, boolean upper) {
        if (no(p)) {
            return UNKNOWN;
        }
        if (x < 0 || x > 10) {
            return BAD;
        }
        long[] chance = ways(p, x, w.mornings[p]);
        for (long by = 2; by <= 5; by += 3) {
            while (chance[0] % by == 0 && chance[1] % by == 0) {
                chance[0] /= by;
                chance[1] /= by;
            }
        }
        return chance[upper ? 0 : 1];
    }

    int enough(int p, int x, int y) {
        if (no(p)) {
            return UNKNOWN;
        }
        if (x < 0 || x > 10 || y < 0 || y > 100) {
            return BAD;
        }
        int mornings = 0;
        while (true) {
            long[] chance = ways(p, x, mornings);
            if (chance[0] * 100 >= chance[1] * y) {
                return mornings;
            }
            mornings++;
        }
    }

    // ---- books of days

    int day(int p, int day, boolean seen) {
        if (no(p)) {
            return UNKNOWN;
        }
        if (day < 0 || day > 99) {
            return BAD;
        }
        if (days.size() == 12) {
            return FULL;
        }
        days.add(new Day(p, day, seen));
        return days.size();
    }

    int forget() {
        int before = days.size();
        days.clear();
        return before;
    }

    int cheats() {
        int set = 0;
        for (int p = 0; p < n(); p++) {
            for (int day = 0; day <= 99; day++) {
                int who = p;
                int when = day;
                long taken = days.stream().filter(d -> d.equals(new Day(who, when, false))).count();
                boolean seen = days.contains(new Day(p, day, true));
                if (taken > 1 || taken == 1 && seen) {
                    set |= 1 << p;
                }
            }
        }
        return set;
    }

    // ---- slots

    int keep(int slot) {
        if (slot != 0 && slot != 1) {
            return UNKNOWN;
        }
        slots[slot] = new World(w);
        return w.debts.size();
    }

    int again(int slot) {
        if (slot != 0 && slot != 1) {
            return UNKNOWN;
        }
        if (slots[slot] == null) {
            return LATE;
        }
        w = new World(slots[slot]);
        acts.clear();
        return w.debts.size();
    }
}
