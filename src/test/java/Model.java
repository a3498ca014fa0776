import java.math.BigInteger;
import java.util.ArrayDeque;
import java.util.ArrayList;
import java.util.Deque;
import java.util.HashSet;
import java.util.List;
import java.util.Set;
import java.util.function.Consumer;
import java.util.function.ToIntFunction;

/**
 * The document once more, written for plainness alone and apart from the program:
 * GUESTS are objects, every look ahead is a new copy, every question looks at a whole film.
 */
final class Model {
    static final class Guest {
        String kind;
        int figure;
        int thirst;
        String state = "SITS";
        int stood;
        int had;

        Guest copy() {
            Guest g = new Guest();
            g.kind = kind;
            g.figure = figure;
            g.thirst = thirst;
            g.state = state;
            g.stood = stood;
            g.had = had;
            return g;
        }

        boolean is(String s) {
            return state.equals(s);
        }

        int limit() {
            switch (kind) {
                case "GUEST": return 4 + figure;
                case "CURATE": return (4 + figure) / 2;
                case "STILL": return 14 + figure;
                case "AUNT": return (4 + figure) / 2 + 2;
                case "HASTY": return 1;
                default: return 99;
            }
        }

        int patience() {
            if (kind.equals("CURATE") || kind.equals("AUNT")) return 3 + figure;
            if (kind.equals("STILL") || kind.equals("CRAY")) return 6;
            return kind.equals("HASTY") ? 2 : 3;
        }

        int sip() {
            return kind.equals("AUNT") ? 1 : kind.equals("HASTY") ? 5 : 2;
        }

        int enough() {
            if (kind.equals("CURATE")) return 1 + figure / 3;
            if (kind.equals("AUNT")) return 1 + figure / 3 + 1;
            return 1;
        }
    }

    static final List<String> KINDS = List.of("GUEST", "CURATE", "STILL", "AUNT", "HASTY", "CRAY");
    static final List<String> STATES = List.of("SITS", "STANDS", "DRINKS", "GONE");

    static final class World {
        List<Guest> guests = new ArrayList<>();
        int cups = 1;
        int rule;
        int minute;
        int poured;
        List<Integer> order = new ArrayList<>();

        World copy() {
            World w = new World();
            for (Guest g : guests) w.guests.add(g.copy());
            w.cups = cups;
            w.rule = rule;
            w.minute = minute;
            w.poured = poured;
            w.order = new ArrayList<>(order);
            return w;
        }

        World with(Consumer<World> change) {
            World w = copy();
            change.accept(w);
            return w;
        }

        int count(String state) {
            return (int) guests.stream().filter(g -> g.is(state)).count();
        }

        World next(boolean hostess) {
            World w = copy();
            w.minute++;
            for (Guest g : w.guests) step(g);
            while (hostess && w.count("DRINKS") < w.cups && w.count("STANDS") > 0) {
                int chosen = -1;
                for (int i = 0; i < w.guests.size(); i++) {
                    Guest g = w.guests.get(i);
                    if (!g.is("STANDS")) continue;
                    if (chosen < 0 || w.rank(i) > w.rank(chosen)) chosen = i;
                }
                w.guests.get(chosen).state = "DRINKS";
                w.poured++;
                w.order.add(chosen);
            }
            return w;
        }

        int rank(int i) {
            Guest g = guests.get(i);
            return rule == 0 ? g.stood : rule == 1 ? g.thirst : rule == 2 ? -i : i;
        }

        static void step(Guest g) {
            if (g.is("SITS")) {
                g.thirst = Math.min(30, g.thirst + 1);
                if (g.thirst >= g.limit()) {
                    g.state = "STANDS";
                    g.stood = 0;
                }
            } else if (g.is("STANDS")) {
                g.stood++;
                if (g.stood > g.patience()) g.state = "GONE";
            } else if (g.is("DRINKS")) {
                g.thirst = Math.max(0, g.thirst - g.sip());
                if (g.thirst == 0) {
                    g.had++;
                    g.state = g.had >= g.enough() ? "GONE" : "SITS";
                }
            }
        }

        World on(int n) {
            World w = this;
            for (int i = 0; i < n; i++) w = w.next(true);
            return w;
        }

        List<World> film(int n) {
            List<World> film = new ArrayList<>();
            film.add(this);
            for (int i = 0; i < n; i++) film.add(film.get(i).next(true));
            return film;
        }

        int leaves(int guest) {
            return first(w -> w.guests.get(guest).is("GONE"));
        }

        int allGone() {
            return first(w -> w.count("GONE") == w.guests.size());
        }

        int othersGone(int one) {
            return first(w -> {
                for (int i = 0; i < w.guests.size(); i++) if (i != one && !w.guests.get(i).is("GONE")) return false;
                return true;
            });
        }

        int first(java.util.function.Predicate<World> so) {
            World w = this;
            for (int n = 0; n <= 99; n++) {
                if (so.test(w)) return n;
                w = w.next(true);
            }
            return 100;
        }

        void rise(int guest) {
            guests.get(guest).state = "STANDS";
            guests.get(guest).stood = 0;
        }

        boolean sits(int guest) {
            return guests.get(guest).is("SITS");
        }
    }

    World now = new World();
    World image;
    String letters = "";
    List<Integer> row = new ArrayList<>();
    int[] refused = new int[7];
    Deque<World> before = new ArrayDeque<>();

    private int no(int number) {
        refused[-number]++;
        return number;
    }

    private int noLoud(int number) {
        return 1000000000 - no(number);
    }

    private long noLong(int number) {
        return 4000000000000000000L - no(number);
    }

    private boolean nobody(int guest) {
        return guest < 0 || guest >= now.guests.size();
    }

    private boolean other(int what, int most) {
        return what < 0 || what > most;
    }

    private void remember() {
        before.push(now.copy());
        if (before.size() > 8) before.removeLast();
    }

    private static int none(int when) {
        return when == 100 ? -9 : when;
    }

    int feed(int letter) {
        if (letter < 0) return no(-4);
        if (letter > 255) return no(-6);
        if (letters.length() == 96) return no(-6);
        letters += (char) letter;
        return letters.length();
    }

    int house() {
        String text = letters;
        letters = "";
        List<String> statements = new ArrayList<>();
        int at = 0;
        do {
            String form = "";
            if (at < text.length()) {
                char c = text.charAt(at);
                form = c == 'g' ? "gdddd;" : c == 'm' ? "mdd;" : "rocu".indexOf(c) >= 0 ? c + "d;" : "";
            }
            if (form.isEmpty()) return -1000 - at;
            for (int i = 0; i < form.length(); i++) {
                if (at + i >= text.length()) return -1000 - text.length();
                char c = text.charAt(at + i);
                boolean fits = form.charAt(i) == 'd' && i > 0 ? c >= '0' && c <= '9' : c == form.charAt(i);
                if (!fits) return -1000 - (at + i);
            }
            statements.add(text.substring(at, at + form.length()));
            at += form.length();
        } while (at < text.length());
        World w = now.copy();
        at = 0;
        for (String s : statements) {
            w = said(w, s);
            if (w == null) return -2000 - at;
            at += s.length();
        }
        now = w;
        before.clear();
        return statements.size();
    }

    private static World said(World w, String s) {
        int d = s.charAt(1) - '0';
        switch (s.charAt(0)) {
            case 'g':
                int thirst = Integer.parseInt(s.substring(3, 5));
                if (d > 5 || thirst > 30 || w.guests.size() == 6) return null;
                w.guests.add(guestLike(d, s.charAt(2) - '0', thirst));
                return w;
            case 'r':
                if (d >= w.guests.size() || !w.sits(d)) return null;
                w.rise(d);
                return w;
            case 'o':
                if (d >= w.guests.size()) return null;
                if (w.guests.get(d).is("DRINKS") || w.guests.get(d).is("GONE")) return null;
                w.guests.get(d).state = "GONE";
                return w;
            case 'c':
                if (d < 1 || d > 5 || w.count("DRINKS") > d) return null;
                w.cups = d;
                return w;
            case 'u':
                if (d > 3) return null;
                w.rule = d;
                return w;
            default:
                int n = Integer.parseInt(s.substring(1, 3));
                if (n < 1 || n > 60 || w.minute + n > 999) return null;
                return w.on(n);
        }
    }

    private static Guest guestLike(int kind, int figure, int thirst) {
        Guest g = new Guest();
        g.kind = KINDS.get(kind);
        g.figure = figure;
        g.thirst = thirst;
        return g;
    }

    int guestOf(int guest, int what) {
        if (nobody(guest)) return no(-1);
        if (other(what, 9)) return no(-2);
        Guest g = now.guests.get(guest);
        int[] all = {KINDS.indexOf(g.kind), g.figure, g.thirst, STATES.indexOf(g.state), g.stood, g.had,
            g.limit(), g.patience(), g.sip(), g.enough()};
        return all[what];
    }

    int guest(int kind, int figure, int thirst) {
        if (other(kind, 5)) return no(-2);
        if (figure < 0 || thirst < 0) return no(-4);
        if (figure > 9 || thirst > 30 || now.guests.size() == 6) return no(-6);
        before.clear();
        now.guests.add(guestLike(kind, figure, thirst));
        return now.guests.size() - 1;
    }

    int rises(int guest) {
        if (nobody(guest)) return no(-1);
        if (!now.sits(guest)) return no(-3);
        remember();
        now.rise(guest);
        return now.count("STANDS");
    }

    int slips(int guest) {
        if (nobody(guest)) return no(-1);
        Guest g = now.guests.get(guest);
        if (g.is("DRINKS") || g.is("GONE")) return no(-3);
        remember();
        now.guests.get(guest).state = "GONE";
        return now.count("GONE");
    }

    int cups(int v) {
        if (v < 1) return no(-4);
        if (v > 5) return no(-6);
        if (now.count("DRINKS") > v) return no(-3);
        remember();
        int was = now.cups;
        now.cups = v;
        return was;
    }

    int rule(int v) {
        if (other(v, 3)) return no(-2);
        remember();
        int was = now.rule;
        now.rule = v;
        return was;
    }

    int minutes(int n) {
        if (n < 1) return no(-4);
        if (n > 60 || now.minute + n > 999) return no(-6);
        before.clear();
        now = now.on(n);
        return now.count("GONE");
    }

    int back() {
        if (before.isEmpty()) return no(-3);
        now = before.pop();
        return before.size();
    }

    private int far(int n) {
        return n < 0 ? -4 : n > 99 ? -6 : 0;
    }

    int behind(int guest, int n, int what) {
        if (nobody(guest)) return no(-1);
        if (far(n) != 0) return no(far(n));
        if (other(what, 2)) return no(-2);
        Guest g = now.on(n).guests.get(guest);
        return what == 0 ? STATES.indexOf(g.state) : what == 1 ? g.thirst : g.had;
    }

    int all(int n, int what) {
        if (far(n) != 0) return no(far(n));
        if (other(what, 5)) return no(-2);
        World w = now.on(n);
        if (what == 4) return w.poured - now.poured;
        if (what == 5) return thirstOf(w);
        return w.count(STATES.get(what));
    }

    private static int thirstOf(World w) {
        return w.guests.stream().filter(g -> !g.is("GONE")).mapToInt(g -> g.thirst).sum();
    }

    int leaves(int guest) {
        return nobody(guest) ? no(-1) : none(now.leaves(guest));
    }

    int gone(int what) {
        if (other(what, 1)) return no(-2);
        if (what == 1) return none(now.allGone());
        int best = -9;
        int soonest = 100;
        for (int g = 0; g < now.guests.size(); g++) {
            if (now.leaves(g) < soonest) {
                soonest = now.leaves(g);
                best = g;
            }
        }
        return best;
    }

    int tastes(int guest) {
        if (nobody(guest)) return no(-1);
        return none(now.first(w -> w.guests.get(guest).is("DRINKS")));
    }

    int thirsty(int what) {
        if (other(what, 1)) return no(-2);
        List<World> film = now.film(99);
        int bits = 0;
        for (int i = 0; i < now.guests.size(); i++) {
            int g = i;
            boolean in = what == 1
                ? !film.get(99).guests.get(g).is("GONE")
                : now.guests.get(g).had == 0 && film.stream().noneMatch(w -> w.guests.get(g).is("DRINKS"));
            if (in) bits += 1 << g;
        }
        return bits;
    }

    int cupsWanted(int v) {
        if (far(v) != 0) return no(far(v));
        for (int c = 1; c <= 5; c++) {
            int cups = c;
            if (c < now.count("DRINKS")) continue;
            if (now.with(w -> w.cups = cups).allGone() <= v) return c;
        }
        return -9;
    }

    private static int leastBy(int from, int to, ToIntFunction<Integer> value) {
        int best = from;
        for (int i = from; i <= to; i++) if (value.applyAsInt(i) < value.applyAsInt(best)) best = i;
        return best;
    }

    int bestRule(int what) {
        if (other(what, 1)) return no(-2);
        if (what == 0) return leastBy(0, 3, r -> now.with(w -> w.rule = r).allGone());
        return leastBy(0, 3, r -> -now.with(w -> w.rule = r).on(99).poured);
    }

    private World risen(int set) {
        return now.with(w -> {
            for (int g = 0; g < w.guests.size(); g++) if ((set & (1 << g)) != 0) w.rise(g);
        });
    }

    private List<Integer> setsWhoSit() {
        List<Integer> sets = new ArrayList<>();
        for (int set = 0; set < 1 << now.guests.size(); set++) {
            boolean fine = true;
            for (int g = 0; g < now.guests.size(); g++) if ((set & (1 << g)) != 0 && !now.sits(g)) fine = false;
            if (fine) sets.add(set);
        }
        return sets;
    }

    int rising(int what) {
        if (other(what, 1)) return no(-2);
        int best = -9;
        int soonest = 100;
        for (int set : setsWhoSit()) {
            int when = risen(set).allGone();
            if (when < soonest) {
                soonest = when;
                best = set;
            }
        }
        return what == 0 ? best : none(soonest);
    }

    int bestRise(int guest, int what) {
        if (nobody(guest)) return no(-1);
        if (other(what, 1)) return no(-2);
        ToIntFunction<Integer> when = m -> {
            World w = now;
            for (int n = 0; n <= 99; n++) {
                if (n == m && w.sits(guest)) w = w.with(v -> v.rise(guest));
                if (w.guests.get(guest).is("GONE")) return n;
                w = w.next(true);
            }
            return 100;
        };
        int best = leastBy(0, 30, when);
        int soonest = when.applyAsInt(best);
        return soonest == 100 ? -9 : what == 0 ? best : soonest;
    }

    int two(int one, int other) {
        if (nobody(one) || nobody(other) || one == other) return no(-1);
        if (!now.sits(one) || !now.sits(other)) return no(-3);
        for (int a = 0; a < 2; a++) {
            for (int b = 0; b < 2; b++) {
                World here = pair(one, a, other, b);
                if (pair(one, 1 - a, other, b).leaves(one) < here.leaves(one)) continue;
                if (pair(one, a, other, 1 - b).leaves(other) < here.leaves(other)) continue;
                return 10 * a + b;
            }
        }
        return -9;
    }

    private World pair(int one, int a, int other, int b) {
        return now.with(w -> {
            if (a == 1) w.rise(one);
            if (b == 1) w.rise(other);
        });
    }

    int rest(int what) {
        if (other(what, 1)) return no(-2);
        List<Integer> resting = new ArrayList<>();
        for (int set : setsWhoSit()) {
            boolean still = true;
            for (int g = 0; g < now.guests.size(); g++) {
                if (!now.sits(g)) continue;
                if (risen(set ^ (1 << g)).leaves(g) < risen(set).leaves(g)) still = false;
            }
            if (still) resting.add(set);
        }
        return what == 0 ? resting.size() : resting.isEmpty() ? -9 : resting.get(0);
    }

    int garden(int guest) {
        if (nobody(guest)) return noLoud(-1);
        if (now.guests.get(guest).is("GONE")) return noLoud(-3);
        return now.othersGone(guest) - now.with(w -> w.guests.get(guest).state = "GONE").othersGone(guest);
    }

    int served(int i) {
        if (i < 0) return no(-4);
        World w = now.with(v -> v.order.clear()).on(99);
        return i < w.order.size() ? w.order.get(i) : -9;
    }

    private boolean asTold(World w, int guest) {
        List<World> film = w.film(12);
        for (int i = 0; i < row.size(); i++) {
            if (STATES.indexOf(film.get(i).guests.get(guest).state) != row.get(i)) return false;
        }
        return true;
    }

    private World kindOf(int guest, int k) {
        return now.with(w -> w.guests.get(guest).kind = KINDS.get(k));
    }

    private World figureOf(int guest, int f) {
        return now.with(w -> w.guests.get(guest).figure = f);
    }

    private World thirstOf(int guest, int t) {
        return now.with(w -> w.guests.get(guest).thirst = t);
    }

    int who(int guest, int what) {
        if (nobody(guest)) return no(-1);
        if (other(what, 2)) return no(-2);
        int kinds = 0;
        int figures = 0;
        int thirsts = 0;
        for (int k = 0; k < 6; k++) if (asTold(kindOf(guest, k), guest)) kinds += 1 << k;
        for (int f = 0; f < 10; f++) if (asTold(figureOf(guest, f), guest)) figures += 1 << f;
        for (int t = 0; t < 31; t++) if (asTold(thirstOf(guest, t), guest)) thirsts++;
        return what == 0 ? kinds : what == 1 ? figures : thirsts;
    }

    int look(int guest, int what) {
        if (nobody(guest)) return no(-1);
        if (other(what, 1)) return no(-2);
        int best = 0;
        int most = 0;
        for (int n = 0; n <= 30; n++) {
            Set<String> states = new HashSet<>();
            for (int k = 0; k < 6; k++) states.add(kindOf(guest, k).on(n).guests.get(guest).state);
            if (states.size() > most) {
                most = states.size();
                best = n;
            }
        }
        return what == 0 ? best : most;
    }

    long away(int guest, int n, int t, int part) {
        if (nobody(guest)) return noLong(-1);
        if (n < 0 || t < 2) return noLong(-4);
        if (n > 8 || t > 20) return noLong(-6);
        if (other(part, 1)) return noLong(-2);
        BigInteger above = likely(now, guest, n, t);
        BigInteger below = BigInteger.valueOf(t).pow(n);
        return lowest(above, below, part);
    }

    private BigInteger likely(World w, int guest, int n, int t) {
        if (n == 0) {
            Guest g = w.guests.get(guest);
            return g.is("DRINKS") || g.had > now.guests.get(guest).had ? BigInteger.ONE : BigInteger.ZERO;
        }
        BigInteger there = likely(w.next(true), guest, n - 1, t).multiply(BigInteger.valueOf(t - 1));
        return there.add(likely(w.next(false), guest, n - 1, t));
    }

    private static long lowest(BigInteger above, BigInteger below, int part) {
        BigInteger d = above.gcd(below);
        return (part == 0 ? above : below).divide(d).longValueExact();
    }

    int crowd(int n, int what) {
        if (far(n) != 0) return no(far(n));
        if (other(what, 1)) return no(-2);
        List<World> film = now.film(n);
        int best = leastBy(0, n, i -> -film.get(i).count("STANDS"));
        return what == 0 ? film.get(best).count("STANDS") : best;
    }

    int caller(int what) {
        if (other(what, 1)) return no(-2);
        int last = now.guests.size();
        if (last == 6) return no(-3);
        ToIntFunction<Integer> when = k -> now.with(w -> w.guests.add(guestLike(k, 5, 5))).leaves(last);
        int best = leastBy(0, 5, when);
        int soonest = when.applyAsInt(best);
        return soonest == 100 ? -9 : what == 0 ? best : soonest;
    }

    int stuck() {
        World w = now.on(99);
        return w.count("STANDS") + w.count("DRINKS") == 0 && w.count("SITS") > 0 ? 1 : 0;
    }

    int longest(int n, int what) {
        if (far(n) != 0) return no(far(n));
        if (other(what, 1)) return no(-2);
        if (now.guests.isEmpty()) return -9;
        List<World> film = now.film(n).subList(1, n + 1);
        ToIntFunction<Integer> stood = g -> (int) film.stream().filter(w -> w.guests.get(g).is("STANDS")).count();
        int best = leastBy(0, now.guests.size() - 1, g -> -stood.applyAsInt(g));
        return what == 0 ? best : stood.applyAsInt(best);
    }

    int leaver(int i) {
        if (i < 0) return no(-4);
        List<Integer> leavers = new ArrayList<>();
        for (int n = 1; n <= 99; n++) {
            for (int g = 0; g < now.guests.size(); g++) if (now.leaves(g) == n) leavers.add(g);
        }
        return i < leavers.size() ? leavers.get(i) : -9;
    }

    int waited(int n, int what) {
        if (far(n) != 0) return no(far(n));
        if (other(what, 1)) return no(-2);
        int sum = 0;
        for (World w : now.film(n).subList(1, n + 1)) sum += what == 0 ? w.count("STANDS") : w.cups - w.count("DRINKS");
        return sum;
    }

    int bestOf(int guest, int what) {
        if (nobody(guest)) return no(-1);
        if (other(what, 1)) return no(-2);
        ToIntFunction<Integer> when = v -> (what == 0 ? figureOf(guest, v) : thirstOf(guest, v)).leaves(guest);
        int best = leastBy(0, what == 0 ? 9 : 30, when);
        return when.applyAsInt(best) == 100 ? -9 : best;
    }

    int kept(int guest) {
        if (nobody(guest)) return noLoud(-1);
        Guest one = now.guests.get(guest);
        if (one.is("GONE") || one.is("DRINKS")) return noLoud(-3);
        World w = now.copy();
        w.guests.get(guest).kind = "CRAY";
        w.guests.get(guest).state = "SITS";
        return now.othersGone(guest) - w.othersGone(guest);
    }

    int dry(int n) {
        if (far(n) != 0) return no(far(n));
        return (int) now.on(n).guests.stream().filter(g -> g.is("GONE") && g.had == 0).count();
    }

    int company(int one, int other, int n) {
        if (nobody(one) || nobody(other) || one == other) return no(-1);
        if (far(n) != 0) return no(far(n));
        int many = 0;
        for (World w : now.film(n).subList(1, n + 1)) {
            if (w.guests.get(one).is("DRINKS") && w.guests.get(other).is("DRINKS")) many++;
        }
        return many;
    }

    long mean(int part) {
        if (other(part, 1)) return noLong(-2);
        int sum = 0;
        int many = 0;
        for (int g = 0; g < now.guests.size(); g++) {
            int when = now.leaves(g);
            if (when <= 99) {
                sum += when;
                many++;
            }
        }
        return many == 0 ? part : lowest(BigInteger.valueOf(sum), BigInteger.valueOf(many), part);
    }

    int hostess(int n) {
        if (far(n) != 0) return no(far(n));
        int best = 0;
        int least = Integer.MAX_VALUE;
        for (int c = Math.max(1, now.count("DRINKS")); c <= 5; c++) {
            for (int r = 0; r <= 3; r++) {
                int cups = c;
                int rule = r;
                int thirst = thirstOf(now.with(w -> w.cups = cups).with(w -> w.rule = rule).on(n));
                if (thirst < least) {
                    least = thirst;
                    best = 10 * r + c;
                }
            }
        }
        return best;
    }

    int row(int v) {
        if (v < 0) return no(-4);
        if (v > 99 || row.size() == 12) return no(-6);
        row.add(v);
        return row.size();
    }

    int judge(int guest) {
        if (nobody(guest)) return no(-1);
        List<Integer> told = row;
        row = new ArrayList<>();
        List<World> film = now.film(12);
        for (int i = 0; i < told.size(); i++) if (film.get(i).guests.get(guest).thirst != told.get(i)) return i;
        return -9;
    }

    int clear() {
        int had = row.size();
        row.clear();
        return had;
    }

    int lots(int n, int z, int what) {
        if (n < 1) return no(-4);
        if (n > 20) return no(-6);
        if (other(what, 1)) return no(-2);
        int gone = 0;
        int poured = 0;
        long seed = z;
        for (int i = 0; i < n; i++) {
            World w = now.copy();
            for (Guest g : w.guests) {
                seed = (int) (seed * 1103515245L + 12345L);
                g.thirst = (int) ((seed & 0x7fffffffL) / 65536L % 31L);
            }
            w = w.on(60);
            gone += w.count("GONE");
            poured += w.poured - now.poured;
        }
        return what == 0 ? gone : poured;
    }

    int image() {
        image = now.copy();
        return now.minute;
    }

    int restore() {
        if (image == null) return no(-3);
        now = image.copy();
        before.clear();
        return now.minute;
    }

    int count(int what) {
        if (what < 0 || what > 17) return -9;
        if (what >= 11 && what <= 16) return refused[what - 10];
        int[] all = {now.guests.size(), now.minute, now.cups, now.rule, now.poured, now.count("SITS"),
            now.count("STANDS"), now.count("DRINKS"), now.count("GONE"), letters.length(), row.size()};
        return what == 17 ? before.size() : all[what];
    }
}
