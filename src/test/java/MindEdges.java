import java.util.ArrayList;
import java.util.Arrays;
import java.util.List;

/** Boundary cases of what is looked at in mind: part II, to BEST RISE. */
final class MindEdges {
    /** All STATES; the sixth, an AUNT, STANDS, has STOOD 3 and HAD 1. */
    private static final String FULL = "g0003;g1930;g2908;g5000;g1705;g3906;c2;m25;";
    /** All SIT, and all will be GONE. */
    private static final String ALL_SIT = "g0000;g1830;g2908;g4000;g1705;g3206;u1;";
    private static final String FIVE = Edge.times(5, "g0003;");
    private static final String SIX = Edge.times(6, "g0003;");

    private MindEdges() {
    }

    private static List<Edge.Call> questions() {
        List<Edge.Call> asks = new ArrayList<>();
        for (int guest = 0; guest < 6; guest++) {
            int g = guest;
            asks.addAll(List.of(x -> x.behind(g, 7, 0), x -> x.behind(g, 40, 1), x -> x.behind(g, 99, 2), x -> x.leaves(g),
                x -> x.tastes(g), x -> x.bestRise(g, 1), x -> x.garden(g), x -> x.kept(g)));
            asks.addAll(List.of(x -> x.who(g, 0), x -> x.who(g, 1), x -> x.who(g, 2), x -> x.look(g, 0), x -> x.look(g, 1),
                x -> x.away(g, 6, 3, 0), x -> x.bestOf(g, 0), x -> x.bestOf(g, 1), x -> x.company(g, 4, 40)));
        }
        for (int what = 0; what < 2; what++) {
            int w = what;
            asks.addAll(List.of(x -> x.gone(w), x -> x.thirsty(w), x -> x.bestRule(w), x -> x.rising(w), x -> x.rest(w),
                x -> x.crowd(30, w), x -> x.longest(30, w), x -> x.waited(30, w), x -> x.mean(w), x -> x.lots(3, 7, w)));
            asks.addAll(List.of(x -> x.all(30, w + 4), x -> x.served(w), x -> x.leaver(w)));
        }
        asks.addAll(List.of(x -> x.cupsWanted(70), x -> x.two(1, 3), x -> x.stuck(), x -> x.dry(30), x -> x.hostess(20)));
        return asks;
    }

    @Says("II. In mind")
    static void nothingComesOfQuestions() {
        nothingComesOfQuestionsBehind(FULL);
        nothingComesOfQuestionsBehind(ALL_SIT);
    }

    private static void nothingComesOfQuestionsBehind(String house) {
        List<Edge.Call> asks = questions();
        long[] first = new long[asks.size()];
        for (int i = 0; i < first.length; i++) first[i] = asks.get(i).on(Edge.of(house));
        PouredForLeaving x = Edge.of(house);
        long[] seen = Edge.all(x);
        for (int i = 0; i < first.length; i++) Edge.due("question " + i + ", asked later", asks.get(i).on(x), first[i]);
        for (int i = first.length - 1; i >= 0; i--) Edge.due("question " + i + ", asked again", asks.get(i).on(x), first[i]);
        Edge.due("all is as it was", Arrays.equals(seen, Edge.all(x)) ? 1 : 0, 1);
    }

    @Says("In mind, n MINUTES on (0 .. 99): STATE, THIRST, HAD of one")
    static void behindNoneAndMost() {
        PouredForLeaving x = Edge.of(Edge.MIXED);
        for (int guest = 0; guest < 6; guest++) {
            Edge.due("STATE behind 0", x.behind(guest, 0, 0), Edge.state(x, guest));
            Edge.due("THIRST behind 0", x.behind(guest, 0, 1), Edge.thirst(x, guest));
            Edge.due("HAD behind 0", x.behind(guest, 0, 2), Edge.had(x, guest));
        }
        PouredForLeaving y = Edge.of(Edge.AUNT_AT_99);
        Edge.due("STATE behind 98", y.behind(1, 98, 0), 2);
        Edge.due("STATE behind 99", y.behind(1, 99, 0), 3);
        Edge.due("THIRST behind 98", y.behind(1, 98, 1), 1);
        Edge.due("THIRST behind 99", y.behind(1, 99, 1), 0);
        Edge.due("HAD behind 98", y.behind(1, 98, 2), 4);
        Edge.due("HAD behind 99", y.behind(1, 99, 2), 5);
        Edge.due("STATE behind 100", y.behind(1, 100, 0), -6);
        Edge.due("STATE behind -1", y.behind(1, -1, 0), -4);
        Edge.due("no MINUTE goes by", y.count(1), 0);
        // In mind MINUTE is no bound.
        PouredForLeaving z = Edge.of(Edge.times(16, "m60;") + "m39;g0002;");
        Edge.due("MINUTE", z.count(1), 999);
        Edge.due("HAD behind 3", z.behind(0, 3, 2), 0);
        Edge.due("HAD behind 4", z.behind(0, 4, 2), 1);
    }

    @Says("how many SIT, STAND, DRINK, are GONE")
    static void howManyBehindNoneAndMost() {
        PouredForLeaving x = Edge.of(Edge.MIXED);
        int[] now = {3, 1, 1, 1};
        for (int what = 0; what < 4; what++) Edge.due("behind 0", x.all(0, what), now[what]);
        PouredForLeaving y = Edge.of(Edge.AUNT_AT_99 + "g5000;");
        int[] before = {1, 0, 1, 1};
        int[] last = {1, 0, 0, 2};
        for (int what = 0; what < 4; what++) {
            Edge.due("behind 98", y.all(98, what), before[what]);
            Edge.due("behind 99", y.all(99, what), last[what]);
            Edge.due("without GUESTS", new PouredForLeaving().all(99, what), 0);
        }
    }

    @Says("how many cups are POURED in these")
    static void pouredInThese() {
        Edge.answers(Edge.MIXED, x -> x.count(4), 1);
        Edge.answers(Edge.MIXED, x -> x.all(0, 4), 0);
        Edge.answers(Edge.MIXED, x -> x.all(1, 4), 0);
        Edge.answers(Edge.MIXED, x -> x.all(2, 4), 1);
        Edge.answers(Edge.CUP_AT_99, x -> x.all(98, 4), 5);
        Edge.answers(Edge.CUP_AT_99, x -> x.all(99, 4), 6);
    }

    @Says("THIRST of all who are not GONE together")
    static void thirstOfAllButGone() {
        Edge.answers(Edge.times(6, "g5030;"), x -> x.all(0, 5), 180);
        Edge.answers(Edge.times(6, "g5030;") + "o0;o5;", x -> x.all(0, 5), 120);
        Edge.answers("g5030;o0;", x -> x.all(0, 5), 0);
        Edge.answers("", x -> x.all(0, 5), 0);
        Edge.answers(Edge.AUNT_AT_99, x -> x.all(98, 5), 1);
        Edge.answers(Edge.AUNT_AT_99, x -> x.all(99, 5), 0);
    }

    @Says("LEAVES: the first n (0 .. 99) behind which one is GONE; -9;")
    static void leaves() {
        Edge.answers("g0000;o0;", x -> x.leaves(0), 0);
        Edge.answers("g0000;r0;m01;", x -> x.leaves(0), 1);
        Edge.answers(Edge.AUNT_AT_99, x -> x.leaves(1), 99);
        Edge.answers(Edge.AUNT_AT_100, x -> x.leaves(1), -9);
        Edge.answers(Edge.AUNT_AT_100 + "m01;", x -> x.leaves(1), 99);
        Edge.answers("g5030;", x -> x.leaves(0), -9);
    }

    @Says("who is so first, of several the least; -9; the first n")
    static void whoIsGoneFirst() {
        Edge.answers("g5000;" + Edge.TWO + "c2;", x -> x.gone(0), 1);
        Edge.answers(SIX + "c5;", x -> x.gone(0), 0);
        Edge.answers(SIX + "c5;u3;", x -> x.gone(0), 1);
        Edge.answers(Edge.TWO + "u3;", x -> x.gone(0), 1);
        Edge.answers(SIX + "o5;o3;", x -> x.gone(0), 3);
        Edge.answers("g5000;", x -> x.gone(0), -9);
        // Three AUNTS keep one another waiting: the first to be GONE is so behind 99; of the others behind 100.
        Edge.answers("g3800;g3909;g3906;", x -> x.leaves(0), 99);
        Edge.answers("g3800;g3909;g3906;", x -> x.gone(0), 0);
        Edge.answers("g3902;g3901;g3907;m05;", x -> x.gone(0), -9);
        Edge.answers("g3902;g3901;g3907;m06;", x -> x.gone(0), 2);
    }

    @Says("the first n behind which all are; -9.")
    static void whenAllAreGone() {
        Edge.answers(Edge.TWO + "o0;o1;", x -> x.gone(1), 0);
        Edge.answers(Edge.TWO + "o0;", x -> x.gone(1), 3);
        Edge.answers(Edge.TWO, x -> x.gone(1), 5);
        Edge.answers(Edge.AUNT_AT_99, x -> x.gone(1), 99);
        Edge.answers(Edge.AUNT_AT_100, x -> x.gone(1), -9);
        Edge.answers(Edge.TWO + "g5000;", x -> x.gone(1), -9);
    }

    @Says("TASTES: the first n behind which one DRINKS; -9.")
    static void tastes() {
        Edge.answers("g0003;m01;", x -> x.tastes(0), 0);
        Edge.answers("g0003;", x -> x.tastes(0), 1);
        Edge.answers("g0000;", x -> x.tastes(0), 4);
        Edge.answers("g5000;", x -> x.tastes(0), -9);
        // Who HAD a cup and is GONE, and who is GONE before he has one.
        Edge.answers("g0003;m03;", x -> x.tastes(0), -9);
        Edge.answers("g0029;g0003;", x -> x.tastes(1), -9);
        // Who HAD a cup and SITS will DRINK again.
        Edge.answers("g1302;m03;", x -> x.tastes(0), 3);
    }

    @Says("THIRSTY: GUESTS (bits) who never DRINK behind 0 .. 99 and have HAD none;")
    static void neverDrink() {
        Edge.answers("g0003;m01;", x -> x.thirsty(0), 0);
        Edge.answers("g0003;m02;", x -> x.thirsty(0), 0);
        Edge.answers("g0003;m03;", x -> x.thirsty(0), 0);
        Edge.answers("g0003;g5000;", x -> x.thirsty(0), 2);
        Edge.answers("g0029;g0003;", x -> x.thirsty(0), 2);
        Edge.answers("g0003;o0;", x -> x.thirsty(0), 1);
        Edge.answers(Edge.times(6, "g5000;"), x -> x.thirsty(0), 63);
        Edge.answers("", x -> x.thirsty(0), 0);
        // The first HAD a cup, and slips out before he DRINKS again.
        Edge.answers("g1302;m03;g0029;m02;o0;", x -> x.thirsty(0), 0);
    }

    @Says("STAYING: who are not GONE behind 99.")
    static void staying() {
        Edge.answers(Edge.AUNT_AT_99, x -> x.thirsty(1), 0);
        Edge.answers(Edge.AUNT_AT_100, x -> x.thirsty(1), 2);
        Edge.answers(Edge.times(6, "g5000;"), x -> x.thirsty(1), 63);
        Edge.answers(Edge.times(6, "g5000;") + "o5;", x -> x.thirsty(1), 31);
        // Behind 99 the first DRINKS, the second SITS, the third STANDS.
        Edge.answers("g3908;g3900;g3901;", x -> x.behind(0, 99, 0), 2);
        Edge.answers("g3908;g3900;g3901;", x -> x.behind(1, 99, 0), 0);
        Edge.answers("g3908;g3900;g3901;", x -> x.behind(2, 99, 0), 1);
        Edge.answers("g3908;g3900;g3901;", x -> x.thirsty(1), 7);
        Edge.answers("g5000;", x -> x.thirsty(1), 1);
        Edge.answers("", x -> x.thirsty(1), 0);
    }

    @Says("CUPS WANTED: the fewest (from as many as DRINK now, 1 at least, to 5) with which all are GONE within v (0 .. 99) MINUTES; -9.")
    static void cupsWanted() {
        Edge.answers("c5;" + Edge.TWO, x -> x.cupsWanted(99), 1);
        Edge.answers("c5;", x -> x.cupsWanted(0), 1);
        Edge.answers("c5;" + Edge.TWO + "m01;", x -> x.cupsWanted(99), 2);
        Edge.answers("c5;" + FIVE + "m01;", x -> x.cupsWanted(99), 5);
        Edge.answers(Edge.TWO, x -> x.cupsWanted(5), 1);
        Edge.answers(Edge.TWO, x -> x.cupsWanted(4), 2);
        Edge.answers(FIVE, x -> x.cupsWanted(3), 5);
        Edge.answers(FIVE, x -> x.cupsWanted(2), -9);
        Edge.answers(SIX, x -> x.cupsWanted(3), -9);
        Edge.answers(SIX + "o0;o1;o2;o3;o4;o5;", x -> x.cupsWanted(0), 1);
        Edge.answers(Edge.TWO, x -> x.cupsWanted(0), -9);
        Edge.answers(Edge.AUNT_AT_99, x -> x.cupsWanted(99), 1);
        Edge.answers(Edge.AUNT_AT_99, x -> x.cupsWanted(98), 2);
        Edge.answers(Edge.AUNT_AT_100, x -> x.cupsWanted(99), 2);
        Edge.answers("g5000;", x -> x.cupsWanted(99), -9);
        Edge.answers("c5;" + Edge.TWO, x -> x.cupsWanted(99) + 10 * x.count(2), 51);
    }

    @Says("BEST RULE: that by which all are GONE soonest (never: last), of several the least;")
    static void bestRule() {
        Edge.answers("u3;", x -> x.bestRule(0), 0);
        Edge.answers("u3;" + Edge.TWO, x -> x.bestRule(0), 0);
        // Never by any.
        Edge.answers("u3;g5000;", x -> x.bestRule(0), 0);
        // By RULES 0 and 2 the AUNT is GONE behind 100, by 1 and 3 behind 95.
        Edge.answers(Edge.AUNT_AT_100, x -> x.bestRule(0), 1);
        // Only by RULE 3 the AUNT comes behind the CURATE: behind 99; behind the HASTY one it would be 101.
        Edge.answers("g4930;g3930;g1007;", x -> x.bestRule(0), 3);
        // By RULE 2 alone the HASTY one is first, who is GONE behind 6, when the other has lost PATIENCE.
        Edge.answers("g4422;g0030;r1;", x -> x.bestRule(0), 2);
    }

    @Says("MOST POURED: that by which most cups are POURED in 99 MINUTES, of several the least.")
    static void mostPoured() {
        Edge.answers("u3;", x -> x.bestRule(1), 0);
        Edge.answers("u3;" + Edge.TWO, x -> x.bestRule(1), 0);
        // By RULE 3 alone the AUNT comes behind the other: her fifth cup, the sixth, is POURED in MINUTE 99.
        Edge.answers("g3930;g0823;", x -> x.bestRule(1), 3);
        Edge.answers("g3930;g0823;u3;", x -> x.all(99, 4), 6);
        Edge.answers("g3930;g0823;u0;", x -> x.all(99, 4), 5);
        // By RULES 1 and 3 the AUNT is first, and has PATIENCE for both her cups; else 1 is POURED.
        Edge.answers("g0423;g3030;", x -> x.bestRule(1), 1);
        // With MINUTE 100 it would be RULE 0.
        Edge.answers("g1904;g3900;g3907;g3901;g0316;g2914;", x -> x.bestRule(1), 2);
        // What was POURED by now is the same for all.
        Edge.answers("g0003;m05;g0003;g0029;", x -> x.bestRule(1), 0);
    }

    @Says("RISING: the set of those who SIT (bits; none, too) that, all rising now, lets all be GONE soonest, of several the least; -9 never; when.")
    static void rising() {
        risingIs("", 0, 0);
        risingIs(Edge.TWO + "o0;o1;", 0, 0);
        risingIs(Edge.TWO, 0, 5);
        risingIs("g0003;m01;", 0, 2);
        // All six must rise: five DRINK behind 1, the sixth behind 2.
        risingIs(Edge.times(6, "g5000;") + "c5;", 63, 3);
        risingIs("g0003;g5000;c2;m01;", 2, 2);
        risingIs("g5000;g0003;g5001;o1;c2;", 5, 2);
        // The CRAY must rise, and keeps the AUNT till behind 5, or 6.
        risingIs("g5908;g3930;", 1, 99);
        risingIs("g5910;g3930;", -9, -9);
    }

    private static void risingIs(String house, int set, int when) {
        Edge.answers(house, x -> x.rising(0), set);
        Edge.answers(house, x -> x.rising(1), when);
    }

    @Says("BEST RISE of one: the m (0 .. 30) so that he, made to rise behind m MINUTES (if he SITS then, else nothing), is GONE soonest, of several the least; -9 never; when.")
    static void bestRise() {
        bestRiseIs("g5000;", 0, 0, 2);
        // She SITS again behind 30 and rises then: 2 MINUTES to the next cup's end, and 10 to the third's.
        bestRiseIs("g3328;", 0, 30, 42);
        // She SITS again behind 31 first.
        bestRiseIs("g3330;", 0, 0, 51);
        // Who SITS not does nothing, by any m.
        bestRiseIs(Edge.MIXED, 0, 0, 2);
        bestRiseIs(Edge.MIXED, 1, 0, 4);
        bestRiseIs(Edge.MIXED, 3, 0, 0);
        // Whenever she rises, the HASTY one keeps her till behind 5, or 6.
        bestRiseIs("g4915;g3930;u2;", 1, 0, 99);
        bestRiseIs("g4920;g3930;u2;", 1, -9, -9);
    }

    private static void bestRiseIs(String house, int guest, int m, int when) {
        Edge.answers(house, x -> x.bestRise(guest, 0), m);
        Edge.answers(house, x -> x.bestRise(guest, 1), when);
    }
}
