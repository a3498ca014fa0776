import java.util.Arrays;
import java.util.function.LongSupplier;

/** Each promise with answers reckoned by hand: ordinary inputs, edges, wrong inputs. */
public final class PromiseTest {
    // Houses that come back below, in letters.
    /** FIGURE 0, so LIMIT 4: STANDS and DRINKS behind 2 MINUTES, GONE behind 4. */
    private static final String ONE = "g0002;";
    /** Both STAND behind 1; the first DRINKS behind 1 and 2, the other behind 3 and 4. */
    private static final String TWO = "g0003;g0003;";
    /** As TWO; the third STANDS behind 1 to 4, and is GONE behind 5 without a cup. */
    private static final String THREE = "g0003;g0003;g0003;";
    /** The CURATE STANDS behind 1, DRINKS behind 3, STOOD 2, and SITS from 6 on; behind 12 he would stand. */
    private static final String STOOD_AND_SITS = "g0003;g1905;m09;";
    /** He drinks till behind 12; then the AUNT drinks 30, and wants four more cups of 16 MINUTES each. */
    private static final String AUNT_BEHIND = "g0020;g3930;";
    /** The second, served first, drinks 15 MINUTES; the first loses patience by then. */
    private static final String SHORT_AND_LONG = "g0003;g0029;";

    private static int wrong = 0;
    private static int checked = 0;

    private static void due(String call, long got, long want) {
        checked++;
        if (got == want) return;
        wrong++;
        System.out.println("PromiseTest: " + call + " answered " + got + ", due is " + want);
    }

    private static PouredForLeaving of(String text) {
        PouredForLeaving x = new PouredForLeaving();
        feed(x, text);
        if (x.house() < 0) due("house() of " + text, -1, 1);
        return x;
    }

    private static void feed(PouredForLeaving x, String text) {
        for (char letter : text.toCharArray()) x.feed(letter);
    }

    private static int house(PouredForLeaving x, String text) {
        feed(x, text);
        return x.house();
    }

    private static long[] snapshot(PouredForLeaving x) {
        long[] all = new long[100];
        int size = 0;
        for (int what = 0; what <= 10; what++) all[size++] = x.count(what);
        all[size++] = x.count(17);
        for (int guest = 0; guest < x.count(0); guest++) {
            for (int what = 0; what < 10; what++) all[size++] = x.guestOf(guest, what);
        }
        return all;
    }

    /** A refused call answers the number, is counted, and changes nothing else. */
    private static void refused(PouredForLeaving x, String call, LongSupplier answer, int number) {
        refusedAs(x, call, answer, number, number);
    }

    private static void refusedInt(PouredForLeaving x, String call, LongSupplier answer, int number) {
        refusedAs(x, call, answer, number, 1000000000L - number);
    }

    private static void refusedLong(PouredForLeaving x, String call, LongSupplier answer, int number) {
        refusedAs(x, call, answer, number, 4000000000000000000L - number);
    }

    private static void refusedAs(PouredForLeaving x, String call, LongSupplier answer, int number, long want) {
        long[] before = snapshot(x);
        int[] counts = refusals(x);
        due(call, answer.getAsLong(), want);
        counts[-number]++;
        due(call + " counted", Arrays.equals(counts, refusals(x)) ? 1 : 0, 1);
        due(call + " changes nothing", Arrays.equals(before, snapshot(x)) ? 1 : 0, 1);
    }

    private static int[] refusals(PouredForLeaving x) {
        int[] counts = new int[7];
        for (int i = 1; i <= 6; i++) counts[i] = x.count(10 + i);
        return counts;
    }

    public static void main(String[] args) {
        newObject();
        feedAndHouse();
        houseFaults();
        guests();
        minuteByMinute();
        rules();
        risesAndSlips();
        cupsAndRule();
        minutes();
        back();
        inMind();
        whenGone();
        whoIsThirsty();
        cupsAndRulesWanted();
        risings();
        pairsAndRest();
        gardenAndKept();
        inOrder();
        rowOfNumbers();
        away();
        crowds();
        callers();
        standing();
        best();
        means();
        lots();
        images();
        refusalsOfTheRest();
        System.out.println("PromiseTest: " + checked + " checks, " + wrong + " wrong");
        if (wrong > 0) System.exit(1);
    }

    private static void newObject() {
        PouredForLeaving x = new PouredForLeaving();
        for (int what = 0; what <= 17; what++) due("new count(" + what + ")", x.count(what), what == 2 ? 1 : 0);
        due("count(18)", x.count(18), -9);
        due("count(-1)", x.count(-1), -9);
        due("count(MIN)", x.count(Integer.MIN_VALUE), -9);
        due("count(MAX)", x.count(Integer.MAX_VALUE), -9);
        for (int what = 11; what <= 16; what++) due("no refusal yet", x.count(what), 0);
    }

    private static void feedAndHouse() {
        PouredForLeaving x = new PouredForLeaving();
        refused(x, "feed(-1)", () -> x.feed(-1), -4);
        refused(x, "feed(256)", () -> x.feed(256), -6);
        due("feed(255)", x.feed(255), 1);
        due("feed(0)", x.feed(0), 2);
        for (int i = 3; i <= 96; i++) due("feed", x.feed('g'), i);
        refused(x, "feed, 97th", () -> x.feed('g'), -6);
        refused(x, "feed(-1), 97th", () -> x.feed(-1), -4);
        due("house()", x.house(), -1000);
        due("letters no more", x.count(9), 0);

        due("seven statements", house(x, "g0312;g5930;c3;u2;r1;m07;o0;"), -2025);
        due("six statements", house(x, "g0312;g5930;c3;u2;r1;m07;"), 6);
        due("guests", x.count(0), 2);
        due("figure", x.guestOf(0, 1), 3);
        due("kind", x.guestOf(1, 0), 5);
        due("cups", x.count(2), 3);
        due("rule", x.count(3), 2);
        due("minute", x.count(1), 7);
        due("poured", x.count(4), 2);
        StringBuilder full = new StringBuilder();
        for (int i = 0; i < 32; i++) full.append("u").append(i % 4).append(";");
        due("96 letters", house(x, full.toString()), 32);
        due("rule", x.count(3), 3);
        due("slipped", house(x, "g0000;o2;"), 2);
        due("gone", x.guestOf(2, 3), 3);
    }

    private static void houseFaults() {
        PouredForLeaving x = new PouredForLeaving();
        String[] texts = {"", "x", "g", "g0", "g00", "g000", "g0000", "gx000;", "g0x00;", "g00x0;", "g000x;", "g0000x",
            ";", "r", "r0", "rx", "r0r", "o;", "c", "u1", "u12", "m1;", "m01", "m011", "c1;;", "c1;c", "c1; ", "\u00e9",
            "c9;c9;m99;q"};
        int[] places = {0, 0, 1, 2, 3, 4, 5, 1, 2, 3, 4, 5,
            0, 1, 2, 1, 2, 1, 1, 2, 2, 2, 3, 3, 3, 4, 3, 0,
            10};
        for (int i = 0; i < texts.length; i++) due("house of " + texts[i], house(x, texts[i]), -1000 - places[i]);
        String[] senseless = {"g6000;", "g0031;", "g0099;", "r0;", "o0;", "c0;", "c6;", "u4;", "m00;", "m61;",
            "c5;c0;", "g0000;r1;", "g0000;r0;r0;", "g0000;o0;o0;", "g0000;o0;r0;", "g0009;m01;o0;", "g0009;m01;r0;",
            "c2;g0009;g0009;m01;c1;", "g0000;g0000;g0000;g0000;g0000;g0000;g0000;", "c1;u9;c9;"};
        int[] first = {0, 0, 0, 0, 0, 0, 0, 0, 0, 0,
            3, 6, 9, 9, 9, 10, 10,
            19, 36, 3};
        for (int i = 0; i < senseless.length; i++) {
            due("house of " + senseless[i], house(x, senseless[i]), -2000 - first[i]);
        }
        due("nothing came", x.count(0) + x.count(1) + x.count(3) + x.count(4), 0);
        due("one cup", x.count(2), 1);
        for (int what = 11; what <= 16; what++) due("a FAULT is not counted", x.count(what), 0);
        for (int i = 0; i < 16; i++) x.minutes(60);
        due("MINUTE above 999", house(x, "m39;m01;"), -2004);
        due("MINUTE 999", house(x, "m39;"), 1);
        due("minute", x.count(1), 999);
        due("fewer cups than drink", house(of("c2;g0009;g0009;m01;"), "c2;c1;"), -2003);
    }

    private static void guests() {
        PouredForLeaving x = new PouredForLeaving();
        int[][] made = {{0, 7, 0}, {1, 7, 30}, {2, 7, 5}, {3, 7, 6}, {4, 7, 7}, {5, 7, 8}};
        int[] limits = {11, 5, 21, 7, 1, 99};
        int[] patiences = {3, 10, 6, 10, 2, 6};
        int[] sips = {2, 2, 2, 1, 5, 2};
        int[] enoughs = {1, 3, 1, 4, 1, 1};
        for (int g = 0; g < 6; g++) {
            due("guest", x.guest(made[g][0], made[g][1], made[g][2]), g);
            for (int what = 0; what < 3; what++) due("guestOf what " + what, x.guestOf(g, what), made[g][what]);
            for (int what = 3; what < 6; what++) due("guestOf what " + what, x.guestOf(g, what), 0);
            due("LIMIT", x.guestOf(g, 6), limits[g]);
            due("PATIENCE", x.guestOf(g, 7), patiences[g]);
            due("SIP", x.guestOf(g, 8), sips[g]);
            due("ENOUGH", x.guestOf(g, 9), enoughs[g]);
        }
        refused(x, "guestOf(6, 0)", () -> x.guestOf(6, 0), -1);
        refused(x, "guestOf(-1, 10)", () -> x.guestOf(-1, 10), -1);
        refused(x, "guestOf(0, 10)", () -> x.guestOf(0, 10), -2);
        refused(x, "guestOf(0, -1)", () -> x.guestOf(0, -1), -2);
        refused(x, "a seventh", () -> x.guest(0, 0, 0), -6);
        refused(x, "a seventh below", () -> x.guest(0, 0, -1), -4);
        refused(x, "a seventh of no kind", () -> x.guest(6, 0, 0), -2);
        PouredForLeaving y = new PouredForLeaving();
        refused(y, "guest(6,..)", () -> y.guest(6, -1, 31), -2);
        refused(y, "guest(-1,..)", () -> y.guest(-1, 0, 0), -2);
        refused(y, "guest(0,-1,31)", () -> y.guest(0, -1, 31), -4);
        refused(y, "guest(0,10,-1)", () -> y.guest(0, 10, -1), -4);
        refused(y, "guest(0,10,0)", () -> y.guest(0, 10, 0), -6);
        refused(y, "guest(0,0,31)", () -> y.guest(0, 0, 31), -6);
        due("guest(5,9,30)", y.guest(5, 9, 30), 0);
        due("ENOUGH of a CURATE, FIGURE 2", of("g1200;").guestOf(0, 9), 1);
        due("ENOUGH of a CURATE, FIGURE 3", of("g1300;").guestOf(0, 9), 2);
        due("LIMIT of a CURATE, FIGURE 4", of("g1400;").guestOf(0, 6), 4);
        due("LIMIT of a CURATE, FIGURE 5", of("g1500;").guestOf(0, 6), 4);
    }

    private static void minuteByMinute() {
        PouredForLeaving x = of(THREE);
        int[][] states = {{2, 1, 1}, {2, 1, 1}, {3, 2, 1}, {3, 2, 1}, {3, 3, 3}};
        int[][] thirsts = {{4, 4, 4}, {2, 4, 4}, {0, 4, 4}, {0, 2, 4}, {0, 0, 4}};
        int[][] stood = {{0, 0, 0}, {0, 1, 1}, {0, 2, 2}, {0, 2, 3}, {0, 2, 4}};
        int[][] had = {{0, 0, 0}, {0, 0, 0}, {1, 0, 0}, {1, 0, 0}, {1, 1, 0}};
        int[] gone = {0, 0, 1, 1, 3};
        for (int n = 0; n < 5; n++) {
            due("minutes(1)", x.minutes(1), gone[n]);
            for (int g = 0; g < 3; g++) {
                due("STATE", x.guestOf(g, 3), states[n][g]);
                due("THIRST", x.guestOf(g, 2), thirsts[n][g]);
                due("STOOD", x.guestOf(g, 4), stood[n][g]);
                due("HAD", x.guestOf(g, 5), had[n][g]);
            }
        }
        due("POURED", x.count(4), 2);
        // A CURATE of FIGURE 3: LIMIT 3, ENOUGH 2; he SITS again behind his first cup, and comes again.
        PouredForLeaving c = of("g1302;m03;");
        due("SITS again", c.guestOf(0, 3), 0);
        due("HAD 1", c.guestOf(0, 5), 1);
        due("LEAVES", c.leaves(0), 5);
        PouredForLeaving s = of("g5030;m05;");
        due("THIRST 30 at most", s.guestOf(0, 2), 30);
        due("a CRAY SITS", s.guestOf(0, 3), 0);
        due("HASTY drinks 5", of("g4005;m02;").guestOf(0, 2), 1);
        // He stood a MINUTE when he sat and rises anew.
        PouredForLeaving again = of("g0003;g1905;m03;");
        due("the CURATE stood 2", again.guestOf(1, 4), 2);
        due("STOOD stays while he DRINKS", again.behind(1, 1, 0), 2);
        house(again, "m01;");
        due("STOOD as it was", again.guestOf(1, 4), 2);
        house(again, "m05;");
        due("STATE again", again.guestOf(1, 3), 0);
        due("STOOD stays while he SITS", again.guestOf(1, 4), 2);
        house(again, "m03;");
        due("STATE behind his LIMIT", again.guestOf(1, 3), 2);
        due("STOOD 0 anew", again.guestOf(1, 4), 0);
    }

    private static void rules() {
        // One drinks till behind 2; STOOD is 0, 0, 1, THIRST 7, 10, 7.
        String house = "g2905;g2908;g2906;g2906;r3;m01;r2;m01;r0;r1;";
        int[] first = {2, 1, 0, 2};
        int[] second = {0, -9, 1, 1};
        for (int rule = 0; rule < 4; rule++) {
            PouredForLeaving x = of(house);
            x.rule(rule);
            due("RULE " + rule + " serves", x.served(0), first[rule]);
            // Behind 7, when RULE 1 has a cup again, all others have lost patience.
            due("RULE " + rule + " serves then", x.served(1), second[rule]);
        }
        PouredForLeaving x = of(house + "c3;");
        for (int i = 0; i < 2; i++) due("more cups", x.served(i), i == 0 ? 2 : 0);
        due("two of three cups at once", x.all(1, 4), 2);
    }

    private static void risesAndSlips() {
        PouredForLeaving x = of(THREE + "m01;");
        refused(x, "rises(0), drinking", () -> x.rises(0), -3);
        refused(x, "rises(1), standing", () -> x.rises(1), -3);
        refused(x, "rises(3)", () -> x.rises(3), -1);
        refused(x, "rises(-1)", () -> x.rises(-1), -1);
        refused(x, "slips(0), drinking", () -> x.slips(0), -3);
        refused(x, "slips(3)", () -> x.slips(3), -1);
        refused(x, "slips(-1)", () -> x.slips(-1), -1);
        due("slips(1), standing", x.slips(1), 1);
        refused(x, "slips(1), gone", () -> x.slips(1), -3);
        refused(x, "rises(1), gone", () -> x.rises(1), -3);
        due("guest", x.guest(0, 0, 0), 3);
        due("rises(3)", x.rises(3), 2);
        due("guest", x.guest(0, 0, 0), 4);
        due("slips(4), sitting", x.slips(4), 2);
        // He stood 2 before he drank and sat; as he rises he has STOOD 0.
        PouredForLeaving c = of(STOOD_AND_SITS);
        due("STOOD", c.guestOf(1, 4), 2);
        due("rises", c.rises(1), 1);
        due("STOOD 0", c.guestOf(1, 4), 0);
    }

    private static void cupsAndRule() {
        PouredForLeaving x = of("c2;g0009;g0009;m01;");
        refused(x, "cups(0)", () -> x.cups(0), -4);
        refused(x, "cups(6)", () -> x.cups(6), -6);
        refused(x, "cups(1)", () -> x.cups(1), -3);
        due("cups(2)", x.cups(2), 2);
        due("cups(5)", x.cups(5), 2);
        due("cups(3)", x.cups(3), 5);
        due("count(2)", x.count(2), 3);
        refused(x, "rule(4)", () -> x.rule(4), -2);
        refused(x, "rule(-1)", () -> x.rule(-1), -2);
        due("rule(3)", x.rule(3), 0);
        due("rule(1)", x.rule(1), 3);
        due("count(3)", x.count(3), 1);
    }

    private static void minutes() {
        PouredForLeaving x = of(TWO);
        refused(x, "minutes(0)", () -> x.minutes(0), -4);
        refused(x, "minutes(-5)", () -> x.minutes(-5), -4);
        refused(x, "minutes(61)", () -> x.minutes(61), -6);
        refused(x, "minutes(MAX)", () -> x.minutes(Integer.MAX_VALUE), -6);
        due("minutes(3)", x.minutes(3), 1);
        due("minutes(60)", x.minutes(60), 2);
        for (int i = 0; i < 15; i++) x.minutes(60);
        due("MINUTE", x.count(1), 963);
        refused(x, "minutes(37)", () -> x.minutes(37), -6);
        due("minutes(36)", x.minutes(36), 2);
        due("MINUTE", x.count(1), 999);
        refused(x, "minutes(1)", () -> x.minutes(1), -6);
        due("guest", x.guest(0, 0, 2), 2);
        due("in mind above 999", x.leaves(2), 4);
    }

    private static void back() {
        PouredForLeaving x = of(TWO + "g2900;m01;");
        refused(x, "back()", x::back, -3);
        x.rises(2);
        x.slips(1);
        x.cups(4);
        x.rule(3);
        x.rule(3);
        due("count(17)", x.count(17), 5);
        due("back", x.back(), 4);
        due("RULE", x.count(3), 3);
        due("back", x.back(), 3);
        due("RULE", x.count(3), 0);
        due("back", x.back(), 2);
        due("CUPS", x.count(2), 1);
        due("back", x.back(), 1);
        due("STANDS", x.guestOf(1, 3), 1);
        due("back", x.back(), 0);
        due("SITS", x.guestOf(2, 3), 0);
        refused(x, "back()", x::back, -3);
        for (int i = 0; i < 10; i++) x.cups(1 + i % 5);
        due("8 at most", x.count(17), 8);
        for (int i = 7; i >= 0; i--) due("back", x.back(), i);
        due("older ones no more", x.count(2), 2);
        refused(x, "back()", x::back, -3);

        x.rule(2);
        x.guest(0, 0, 40);
        x.minutes(0);
        house(x, "x");
        x.restore();
        due("refused ones leave it", x.count(17), 1);
        x.guest(0, 0, 0);
        due("guest() leaves none", x.count(17), 0);
        x.rule(1);
        x.image();
        due("image() leaves it", x.count(17), 1);
        x.minutes(1);
        due("minutes() leaves none", x.count(17), 0);
        x.rule(3);
        house(x, "u0;");
        due("a HOUSE leaves none", x.count(17), 0);
        x.rule(3);
        x.restore();
        due("restore() leaves none", x.count(17), 0);
        // STOOD comes back too.
        PouredForLeaving c = of(STOOD_AND_SITS);
        c.rises(1);
        c.back();
        due("STOOD is back", c.guestOf(1, 4), 2);
    }

    private static void inMind() {
        PouredForLeaving x = of(THREE + "m01;");
        int[][] states = {{2, 1, 1}, {2, 1, 1}, {3, 2, 1}, {3, 2, 1}, {3, 3, 3}};
        int[][] thirsts = {{4, 4, 4}, {2, 4, 4}, {0, 4, 4}, {0, 2, 4}, {0, 0, 4}};
        int[][] had = {{0, 0, 0}, {0, 0, 0}, {1, 0, 0}, {1, 0, 0}, {1, 1, 0}};
        int[] poured = {0, 0, 1, 1, 1};
        int[] thirst = {12, 10, 8, 6, 0};
        for (int n = 0; n < 5; n++) {
            int[] many = new int[4];
            for (int g = 0; g < 3; g++) {
                many[states[n][g]]++;
                due("behind STATE", x.behind(g, n, 0), states[n][g]);
                due("behind THIRST", x.behind(g, n, 1), thirsts[n][g]);
                due("behind HAD", x.behind(g, n, 2), had[n][g]);
            }
            for (int s = 0; s < 4; s++) due("all STATE " + s, x.all(n, s), many[s]);
            PouredForLeaving y = of(THREE + "m0" + (n + 1) + ";");
            for (int s = 0; s < 4; s++) due("count STATE " + s, y.count(5 + s), many[s]);
            due("all POURED", x.all(n, 4), poured[n]);
            due("all THIRST", x.all(n, 5), thirst[n]);
        }
        due("nothing changed", x.count(1), 1);
        due("behind 99", x.behind(2, 99, 0), 3);
        refused(x, "behind(3,-1,3)", () -> x.behind(3, -1, 3), -1);
        refused(x, "behind(0,-1,3)", () -> x.behind(0, -1, 3), -4);
        refused(x, "behind(0,100,3)", () -> x.behind(0, 100, 3), -6);
        refused(x, "behind(0,99,3)", () -> x.behind(0, 99, 3), -2);
        refused(x, "behind(0,0,-1)", () -> x.behind(0, 0, -1), -2);
        refused(x, "all(-1,6)", () -> x.all(-1, 6), -4);
        refused(x, "all(100,6)", () -> x.all(100, 6), -6);
        refused(x, "all(0,6)", () -> x.all(0, 6), -2);
        refused(x, "all(0,-1)", () -> x.all(0, -1), -2);
    }

    private static void whenGone() {
        PouredForLeaving x = of(THREE);
        int[] leaves = {3, 5, 5};
        int[] tastes = {1, 3, -9};
        for (int g = 0; g < 3; g++) {
            due("leaves", x.leaves(g), leaves[g]);
            due("tastes", x.tastes(g), tastes[g]);
        }
        due("first", x.gone(0), 0);
        due("all", x.gone(1), 5);
        PouredForLeaving cray = of("g5030;" + ONE);
        due("never", cray.leaves(0), -9);
        due("never tastes", cray.tastes(0), -9);
        due("first", cray.gone(0), 1);
        due("all never", cray.gone(1), -9);
        due("none", of("g5000;").gone(0), -9);
        PouredForLeaving out = of(TWO + "o1;m01;");
        due("GONE now", out.leaves(1), 0);
        due("GONE first", out.gone(0), 1);
        due("DRINKS now", out.tastes(0), 0);
        due("without GUESTS", new PouredForLeaving().gone(1), 0);
        due("without GUESTS", new PouredForLeaving().gone(0), -9);
        due("several at once", of("g0003;g4003;c2;").gone(0), 1);
        due("the least of several", of("c2;g0003;g0003;").gone(0), 0);
        // An AUNT of FIGURE 9 empties 5 cups: LIMIT 8, 8 MINUTES to drink one, 8 to thirst again.
        due("GONE behind 95", of("g3930;").leaves(0), 95);
        due("not within 99", of(AUNT_BEHIND).leaves(1), -9);
        due("not within 99, all", of(AUNT_BEHIND).gone(1), -9);
        due("within 99", of(AUNT_BEHIND + "m09;").leaves(1), 12 + 30 + 4 * 16 - 9);
        due("GONE behind 99", of("g0006;g3930;").leaves(1), 99);
        due("all GONE behind 99", of("g0006;g3930;").gone(1), 99);
        due("leaver behind 99", of("g0006;g3930;").leaver(1), 1);
        due("GONE behind 100", of("g0008;g3930;").leaves(1), -9);
        due("all GONE behind 100", of("g0008;g3930;").gone(1), -9);
        due("leaver behind 100", of("g0008;g3930;").leaver(1), -9);
        due("STAYING behind 99", of("g0008;g3930;").thirsty(1), 2);
        due("STAYING behind 99 none", of("g0006;g3930;").thirsty(1), 0);
        refused(x, "leaves(3)", () -> x.leaves(3), -1);
        refused(x, "leaves(-1)", () -> x.leaves(-1), -1);
        refused(x, "tastes(3)", () -> x.tastes(3), -1);
        refused(x, "gone(2)", () -> x.gone(2), -2);
        refused(x, "gone(-1)", () -> x.gone(-1), -2);
    }

    private static void whoIsThirsty() {
        PouredForLeaving x = of(THREE + "g5000;");
        due("THIRSTY", x.thirsty(0), 4 + 8);
        due("STAYING", x.thirsty(1), 8);
        x.minutes(5);
        due("THIRSTY who HAD none", x.thirsty(0), 4 + 8);
        PouredForLeaving d = of("g0003;m01;");
        due("who DRINKS now", d.thirsty(0), 0);
        refused(x, "thirsty(2)", () -> x.thirsty(2), -2);
        refused(x, "thirsty(-1)", () -> x.thirsty(-1), -2);
    }

    private static void cupsAndRulesWanted() {
        PouredForLeaving x = of(TWO);
        due("within 5", x.cupsWanted(5), 1);
        due("within 4", x.cupsWanted(4), 2);
        due("within 3", x.cupsWanted(3), 2);
        due("within 2", x.cupsWanted(2), -9);
        due("within 0", x.cupsWanted(0), -9);
        due("as many as drink", of("c2;" + TWO + "m01;").cupsWanted(99), 2);
        due("with a CRAY", of("g5000;").cupsWanted(99), -9);
        due("no GUESTS", of("c4;").cupsWanted(0), 1);
        due("five cups", of("g0003;g0003;g0003;g0003;g0003;").cupsWanted(3), 5);
        refused(x, "cupsWanted(-1)", () -> x.cupsWanted(-1), -4);
        refused(x, "cupsWanted(100)", () -> x.cupsWanted(100), -6);

        PouredForLeaving y = of(SHORT_AND_LONG);
        due("BEST RULE", y.bestRule(0), 1);
        due("MOST POURED", y.bestRule(1), 0);
        PouredForLeaving z = of("u1;g0029;g0003;");
        due("BEST RULE", z.bestRule(0), 0);
        due("MOST POURED", z.bestRule(1), 3);
        due("never", of("g5000;u2;").bestRule(0), 0);
        refused(z, "bestRule(2)", () -> z.bestRule(2), -2);

        due("BETTER HOSTESS behind 5", y.hostess(5), 11);
        due("BETTER HOSTESS behind 4", y.hostess(4), 2);
        due("BETTER HOSTESS behind 0", y.hostess(0), 1);
        due("as many as drink", of("c3;" + TWO + "m01;").hostess(99), 2);
        refused(y, "hostess(-1)", () -> y.hostess(-1), -4);
        refused(y, "hostess(100)", () -> y.hostess(100), -6);
    }

    private static void risings() {
        PouredForLeaving x = of("g0901;");
        due("LEAVES", x.leaves(0), 19);
        due("RISING", x.rising(0), 1);
        due("RISING when", x.rising(1), 2);
        due("BEST RISE", x.bestRise(0, 0), 0);
        due("BEST RISE when", x.bestRise(0, 1), 2);
        due("the least set", of(TWO).rising(0), 0);
        due("the least set when", of(TWO).rising(1), 5);
        PouredForLeaving crays = of("c2;g5001;g0003;o1;g5001;");
        due("those who SIT", crays.rising(0), 5);
        due("those who SIT, when", crays.rising(1), 2);
        due("nobody SITS", of("g0003;m01;").rising(0), 0);
        // The cup is free behind 3; who sits a MINUTE longer has more THIRST then than who stands.
        PouredForLeaving y = of("u1;g0005;m01;g2905;r1;g2905;");
        due("BEST RISE later", y.bestRise(2, 0), 1);
        due("BEST RISE later, when", y.bestRise(2, 1), 6);
        due("LEAVES", y.bestRise(0, 1), y.leaves(0));
        due("who is GONE", of(TWO + "o0;").bestRise(0, 0), 0);
        due("who is GONE, when", of(TWO + "o0;").bestRise(0, 1), 0);
        refused(x, "rising(2)", () -> x.rising(2), -2);
        refused(x, "rising(-1)", () -> x.rising(-1), -2);
        refused(x, "bestRise(1,2)", () -> x.bestRise(1, 2), -1);
        refused(x, "bestRise(0,2)", () -> x.bestRise(0, 2), -2);
        due("the AUNT first", of(AUNT_BEHIND).rising(0), 2);
        due("the AUNT first, when", of(AUNT_BEHIND).rising(1), 95);
        PouredForLeaving never = of(AUNT_BEHIND + "m01;");
        due("never all", never.rising(0), -9);
        due("never all, when", never.rising(1), -9);
        due("never one", never.bestRise(1, 0), -9);
        due("never one, when", never.bestRise(1, 1), -9);
    }

    private static void pairsAndRest() {
        PouredForLeaving x = of(TWO);
        due("TWO", x.two(0, 1), 10);
        due("TWO the other way", x.two(1, 0), 1);
        due("AT REST", x.rest(0), 2);
        due("AT REST the least", x.rest(1), 1);
        due("nobody SITS", of("g0003;m01;").rest(0), 1);
        PouredForLeaving none = of("g3111;g1711;g0200;");
        due("TWO of no rest", none.two(0, 1), -9);
        due("AT REST none", none.rest(0), 0);
        due("AT REST the least of none", none.rest(1), -9);
        PouredForLeaving y = of(TWO + "m01;g0000;g0000;");
        refused(y, "two(0,4)", () -> y.two(0, 4), -1);
        refused(y, "two(4,0)", () -> y.two(4, 0), -1);
        refused(y, "two(-1,0)", () -> y.two(-1, 0), -1);
        refused(y, "two(2,2)", () -> y.two(2, 2), -1);
        refused(y, "two(0,2)", () -> y.two(0, 2), -3);
        refused(y, "two(2,1)", () -> y.two(2, 1), -3);
        refused(y, "rest(2)", () -> y.rest(2), -2);
        refused(y, "rest(-1)", () -> y.rest(-1), -2);
    }

    private static void gardenAndKept() {
        PouredForLeaving x = of(TWO);
        due("GARDEN", x.garden(0), 2);
        due("GARDEN", x.garden(1), 0);
        due("GARDEN of one alone", of(ONE).garden(0), 0);
        due("GARDEN of who DRINKS", of(TWO + "m01;").garden(0), 4 - 3);
        due("never", of(TWO + "g5000;").garden(0), 0);
        due("KEPT", x.kept(0), 2);
        due("KEPT", x.kept(1), 0);
        due("KEPT, never", of(AUNT_BEHIND).kept(0), 100 - 95);
        due("KEPT who STANDS", of("g0003;g0003;g1203;m01;").kept(1), 6 - 4);
        PouredForLeaving y = of(TWO + "m01;o1;");
        refusedInt(y, "garden(1)", () -> y.garden(1), -3);
        refusedInt(y, "garden(2)", () -> y.garden(2), -1);
        refusedInt(y, "garden(-1)", () -> y.garden(-1), -1);
        refusedInt(y, "kept(1)", () -> y.kept(1), -3);
        refusedInt(y, "kept(0)", () -> y.kept(0), -3);
        refusedInt(y, "kept(2)", () -> y.kept(2), -1);
        refusedInt(y, "kept(-1)", () -> y.kept(-1), -1);
        // Without the first, the long drinker STANDS alone at 1; the short one keeps him waiting till 3.
        due("GARDEN of the short one", of(SHORT_AND_LONG).garden(0), 18 - 16);
        // Behind the long one the CURATE loses patience at 16; without him he is content at 33.
        due("GARDEN below 0", of("u1;g0029;g1903;").garden(0), 16 - 33);
        due("GARDEN, never", of(AUNT_BEHIND).garden(0), 100 - 95);
    }

    private static void inOrder() {
        PouredForLeaving x = of(THREE);
        int[] leavers = {0, 1, 2, -9, -9};
        int[] served = {0, 1, -9, -9, -9};
        for (int i = 0; i < 5; i++) {
            due("leaver", x.leaver(i), leavers[i]);
            due("served", x.served(i), served[i]);
        }
        due("leaver(MAX)", x.leaver(Integer.MAX_VALUE), -9);
        due("served(MAX)", x.served(Integer.MAX_VALUE), -9);
        PouredForLeaving y = of(THREE + "o0;m01;");
        due("GONE now not counted", y.leaver(0), 1);
        due("DRINKS now not counted", y.served(0), 2);
        // A CURATE of FIGURE 3 is served twice.
        PouredForLeaving c = of("g1302;");
        due("served", c.served(0), 0);
        due("served again", c.served(1), 0);
        due("served no more", c.served(2), -9);
        due("greatest first", of("u3;c2;" + THREE).served(0), 2);
        due("then the next", of("u3;c2;" + THREE).served(1), 1);
        refused(x, "served(-1)", () -> x.served(-1), -4);
        refused(x, "leaver(-1)", () -> x.leaver(-1), -4);
    }

    private static void told(PouredForLeaving x, int... numbers) {
        x.clear();
        for (int i = 0; i < numbers.length; i++) due("row", x.row(numbers[i]), i + 1);
    }

    private static void rowOfNumbers() {
        PouredForLeaving x = of("g0000;");
        due("no ROW: KINDS", x.who(0, 0), 63);
        due("no ROW: FIGURES", x.who(0, 1), 1023);
        due("no ROW: THIRSTS", x.who(0, 2), 31);
        due("no ROW: JUDGED", x.judge(0), -9);
        told(x, 0, 2);
        due("HASTY", x.who(0, 0), 16);
        due("no FIGURE", x.who(0, 1), 0);
        due("THIRSTS 3 .. 30", x.who(0, 2), 28);
        due("the ROW stays", x.count(10), 2);
        told(x, 0, 0, 0, 0, 2);
        due("GUEST or AUNT", x.who(0, 0), 1 + 8);
        due("FIGURE 0", x.who(0, 1), 1);
        due("THIRST 0", x.who(0, 2), 1);
        told(x, 7);
        due("no STATE 7", x.who(0, 0), 0);
        due("LOOK", x.look(0, 0), 2);
        due("LOOK how many", x.look(0, 1), 3);
        due("LOOK at one GONE", of("g0000;o0;").look(0, 0), 0);
        due("LOOK at one GONE, how many", of("g0000;o0;").look(0, 1), 1);

        PouredForLeaving y = of(ONE);
        told(y, 2, 3, 4, 2, 0);
        due("JUDGED as is so", y.judge(0), -9);
        due("none then", y.count(10), 0);
        told(y, 2, 3, 5, 9);
        refused(y, "judge(1)", () -> y.judge(1), -1);
        due("JUDGED", y.judge(0), 2);
        due("none then", y.count(10), 0);
        told(y, 0);
        due("JUDGED at once", y.judge(0), 0);
        refused(y, "row(-1)", () -> y.row(-1), -4);
        refused(y, "row(100)", () -> y.row(100), -6);
        for (int i = 1; i <= 12; i++) due("row", y.row(99), i);
        refused(y, "row, 13th", () -> y.row(0), -6);
        refused(y, "row(-1), 13th", () -> y.row(-1), -4);
        due("clear", y.clear(), 12);
        due("clear", y.clear(), 0);
        refused(y, "who(1,3)", () -> y.who(1, 3), -1);
        refused(y, "who(0,3)", () -> y.who(0, 3), -2);
        refused(y, "who(0,-1)", () -> y.who(0, -1), -2);
        refused(y, "look(1,2)", () -> y.look(1, 2), -1);
        refused(y, "look(0,2)", () -> y.look(0, 2), -2);
        refused(y, "judge(-1)", () -> y.judge(-1), -1);
    }

    private static void away() {
        PouredForLeaving x = of(ONE);
        // He STANDS from behind 2 to behind 5: a cup, unless she is away each time.
        long[] above = {0, 0, 2, 8, 26, 80, 80, 80, 80};
        long[] below = {1, 1, 3, 9, 27, 81, 81, 81, 81};
        for (int n = 0; n <= 8; n++) {
            due("AWAY above, n " + n, x.away(0, n, 3, 0), above[n]);
            due("AWAY below, n " + n, x.away(0, n, 3, 1), below[n]);
        }
        due("1 in 20", x.away(0, 2, 20, 0), 19);
        due("1 in 20", x.away(0, 2, 20, 1), 20);
        due("1 in 2", x.away(0, 8, 2, 0), 15);
        due("1 in 2", x.away(0, 8, 2, 1), 16);
        due("DRINKS now", of(ONE + "m02;").away(0, 0, 2, 0), 1);
        due("GONE now", of(ONE + "m04;").away(0, 8, 20, 0), 0);
        due("GONE now", of(ONE + "m04;").away(0, 8, 20, 1), 1);
        refusedLong(x, "away(1,-1,1,2)", () -> x.away(1, -1, 1, 2), -1);
        refusedLong(x, "away(-1,..)", () -> x.away(-1, 0, 2, 0), -1);
        refusedLong(x, "away(0,-1,21,2)", () -> x.away(0, -1, 21, 2), -4);
        refusedLong(x, "away(0,9,1,2)", () -> x.away(0, 9, 1, 2), -4);
        refusedLong(x, "away(0,9,2,2)", () -> x.away(0, 9, 2, 2), -6);
        refusedLong(x, "away(0,0,21,2)", () -> x.away(0, 0, 21, 2), -6);
        refusedLong(x, "away(0,0,2,2)", () -> x.away(0, 0, 2, 2), -2);
        refusedLong(x, "away(0,0,2,-1)", () -> x.away(0, 0, 2, -1), -2);
    }

    private static void crowds() {
        PouredForLeaving x = of(THREE);
        due("CROWD", x.crowd(99, 0), 2);
        due("CROWD first", x.crowd(99, 1), 1);
        due("CROWD now", x.crowd(0, 0), 0);
        PouredForLeaving y = of(THREE + "r0;r1;r2;");
        due("CROWD now", y.crowd(5, 0), 3);
        due("CROWD now first", y.crowd(5, 1), 0);
        refused(x, "crowd(-1,2)", () -> x.crowd(-1, 2), -4);
        refused(x, "crowd(100,2)", () -> x.crowd(100, 2), -6);
        refused(x, "crowd(0,2)", () -> x.crowd(0, 2), -2);
        due("COMPANY", of("c2;" + TWO).company(0, 1, 99), 2);
        due("COMPANY", of("c2;" + TWO).company(1, 0, 1), 1);
        due("COMPANY now not counted", of("c2;" + TWO + "m01;").company(0, 1, 99), 1);
        due("COMPANY of none", x.company(0, 1, 99), 0);
        due("COMPANY behind 0", x.company(0, 1, 0), 0);
        refused(x, "company(0,3,-1)", () -> x.company(0, 3, -1), -1);
        refused(x, "company(-1,0,100)", () -> x.company(-1, 0, 100), -1);
        refused(x, "company(1,1,0)", () -> x.company(1, 1, 0), -1);
        refused(x, "company(0,1,-1)", () -> x.company(0, 1, -1), -4);
        refused(x, "company(0,1,100)", () -> x.company(0, 1, 100), -6);
    }

    private static void callers() {
        PouredForLeaving x = of(TWO);
        // The HASTY one STANDS behind 1, and loses patience behind 4.
        due("CALLER", x.caller(0), 4);
        due("CALLER when", x.caller(1), 4);
        due("nobody came", x.count(0), 2);
        PouredForLeaving full = of(THREE + THREE);
        refused(full, "caller(0)", () -> full.caller(0), -3);
        refused(full, "caller(2)", () -> full.caller(2), -2);
        refused(x, "caller(-1)", () -> x.caller(-1), -2);
    }

    private static void standing() {
        due("STUCK", of("g5000;").stuck(), 1);
        due("STUCK with others GONE", of(TWO + "g5000;").stuck(), 1);
        due("all GONE", of(TWO).stuck(), 0);
        due("no GUESTS", new PouredForLeaving().stuck(), 0);
        PouredForLeaving x = of(THREE);
        due("LONGEST", x.longest(99, 0), 2);
        due("LONGEST how many", x.longest(99, 1), 4);
        due("LONGEST of several", x.longest(2, 0), 1);
        due("LONGEST of several, how many", x.longest(2, 1), 2);
        due("LONGEST of 0 MINUTES", x.longest(0, 0), 0);
        due("LONGEST of 0 MINUTES, how many", x.longest(0, 1), 0);
        due("LONGEST, the most is 0", of(ONE + "g5000;").longest(99, 0), 0);
        due("LONGEST, the most is 0, how many", of(ONE + "g5000;").longest(99, 1), 0);
        due("LONGEST behind one who STOOD 0", of("g5000;" + TWO).longest(99, 0), 2);
        due("LONGEST of all GONE", of(TWO + "o0;o1;").longest(99, 0), 0);
        due("LONGEST without GUESTS", new PouredForLeaving().longest(0, 0), -9);
        due("LONGEST without GUESTS, how many", new PouredForLeaving().longest(99, 1), -9);
        due("LONGEST now not counted", of(ONE + "r0;").longest(99, 1), 0);
        due("WAITED", x.waited(99, 0), 4 + 2);
        due("WAITED", x.waited(1, 0), 2);
        due("WAITED", x.waited(0, 0), 0);
        due("IDLE", x.waited(99, 1), 99 - 4);
        due("IDLE of two", of("c2;" + TWO).waited(10, 1), 20 - 4);
        due("DRY", x.dry(4), 0);
        due("DRY", x.dry(5), 1);
        due("DRY now", of(TWO + "o0;").dry(0), 1);
        refused(x, "longest(-1,2)", () -> x.longest(-1, 2), -4);
        refused(x, "longest(100,2)", () -> x.longest(100, 2), -6);
        refused(x, "longest(0,2)", () -> x.longest(0, 2), -2);
        refused(x, "waited(-1,2)", () -> x.waited(-1, 2), -4);
        refused(x, "waited(100,2)", () -> x.waited(100, 2), -6);
        refused(x, "waited(0,-1)", () -> x.waited(0, -1), -2);
        refused(x, "waited(0,2)", () -> x.waited(0, 2), -2);
        refused(x, "dry(-1)", () -> x.dry(-1), -4);
        refused(x, "dry(100)", () -> x.dry(100), -6);
    }

    private static void best() {
        PouredForLeaving x = of("g0901;");
        due("BEST FIGURE", x.bestOf(0, 0), 0);
        due("BEST THIRST", of("g0030;").bestOf(0, 1), 3);
        due("BEST FIGURE of an AUNT", of("g3901;").bestOf(0, 0), 0);
        due("never", of("g5000;").bestOf(0, 0), -9);
        due("never", of("g5000;").bestOf(0, 1), -9);
        // One who STANDS loses patience behind 4; with a FIGURE more a CURATE waits longer.
        due("who is GONE", of("g0900;o0;").bestOf(0, 1), 0);
        refused(x, "bestOf(1,2)", () -> x.bestOf(1, 2), -1);
        refused(x, "bestOf(0,2)", () -> x.bestOf(0, 2), -2);
        refused(x, "bestOf(0,-1)", () -> x.bestOf(0, -1), -2);
    }

    private static void means() {
        PouredForLeaving x = of(THREE);
        due("MEAN", x.mean(0), 13);
        due("MEAN", x.mean(1), 3);
        due("MEAN in lowest terms", of(TWO + "g5000;").mean(0), 4);
        due("MEAN in lowest terms", of(TWO + "g5000;").mean(1), 1);
        due("MEAN of none", of("g5000;").mean(0), 0);
        due("MEAN of none", of("g5000;").mean(1), 1);
        due("MEAN of one alone", of(ONE).mean(0), 4);
        due("MEAN of one GONE", of("g5000;o0;").mean(1), 1);
        refusedLong(x, "mean(2)", () -> x.mean(2), -2);
        refusedLong(x, "mean(-1)", () -> x.mean(-1), -2);
    }

    private static void lots() {
        // This AUNT is GONE behind 60 MINUTES if her THIRST is drawn 16 at most.
        PouredForLeaving x = of("g3600;");
        long z = 5;
        int gone = 0;
        for (int n = 1; n <= 20; n++) {
            z = (z * 1103515245L + 12345L) & 0xffffffffL;
            if ((z & 0x7fffffffL) / 65536 % 31 <= 16) gone++;
            due("LOTS " + n, x.lots(n, 5, 0), gone);
        }
        due("some are GONE, some not", gone > 3 && gone < 17 ? 1 : 0, 1);
        due("POURED", of(TWO + "c5;").lots(7, -1, 1), 14);
        due("and with a seed below 0", of(ONE + "g5000;").lots(1, -123456789, 1), 1);
        due("GONE now counted", of(TWO + "c5;o0;").lots(7, 99, 0), 14);
        due("POURED", of(TWO + "c5;o0;").lots(7, 99, 1), 7);
        due("cups as they were", of(TWO + "m05;g0000;").lots(3, 1, 1), 3);
        due("nothing changed", x.guestOf(0, 2), 0);
        refused(x, "lots(0,0,2)", () -> x.lots(0, 0, 2), -4);
        refused(x, "lots(21,0,2)", () -> x.lots(21, 0, 2), -6);
        refused(x, "lots(20,0,2)", () -> x.lots(20, 0, 2), -2);
        refused(x, "lots(1,0,-1)", () -> x.lots(1, 0, -1), -2);
    }

    private static void images() {
        PouredForLeaving x = of(THREE + "c2;u3;m02;");
        refused(x, "restore()", x::restore, -3);
        long[] then = snapshot(x);
        due("image", x.image(), 2);
        x.guest(5, 1, 1);
        x.cups(5);
        x.rule(0);
        x.minutes(7);
        x.row(3);
        x.feed(3);
        due("restore", x.restore(), 2);
        due("the ROW stays", x.clear(), 1);
        due("letters stay", x.count(9), 1);
        due("REFUSALS stay", x.count(13), 1);
        x.house();
        due("all of I", Arrays.equals(then, snapshot(x)) ? 1 : 0, 1);
        x.minutes(60);
        due("restore again", x.restore(), 2);
        due("all of I again", Arrays.equals(then, snapshot(x)) ? 1 : 0, 1);
        x.minutes(1);
        due("image anew", x.image(), 3);
        x.minutes(1);
        due("restore the latest", x.restore(), 3);
    }

    private static void refusalsOfTheRest() {
        PouredForLeaving x = new PouredForLeaving();
        x.leaves(0);
        x.gone(5);
        x.gone(5);
        x.back();
        x.back();
        x.back();
        x.feed(-1);
        for (int i = 0; i < 5; i++) x.row(1000);
        x.garden(0);
        x.mean(9);
        due("REFUSALS -1", x.count(11), 2);
        due("REFUSALS -2", x.count(12), 3);
        due("REFUSALS -3", x.count(13), 3);
        due("REFUSALS -4", x.count(14), 1);
        due("REFUSALS -5", x.count(15), 0);
        due("REFUSALS -6", x.count(16), 5);
    }
}
