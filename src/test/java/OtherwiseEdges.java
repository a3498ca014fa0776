/** Boundary cases of what is looked at in mind: part II, from TWO on. */
final class OtherwiseEdges {
    /** FIGURE 0: STANDS and DRINKS behind 2 MINUTES, is GONE behind 4. */
    private static final String ONE = "g0002;";
    /** Behind the HASTY one, or behind who rises, the AUNT is GONE behind 100, or 99; ahead of him behind 93. */
    private static final String HASTY_AND_AUNT = "g4930;g3928;";

    private OtherwiseEdges() {
    }

    @Says("TWO who SIT: each rises now (1) or not (0), each would be GONE soonest (never: 100): the first pair (10 the first's and the other's) by which neither is sooner by another alone; -9.")
    static void two() {
        Edge.answers("c2;" + Edge.TWO, x -> x.two(0, 1), 0);
        Edge.answers(Edge.TWO, x -> x.two(0, 1), 10);
        Edge.answers(Edge.TWO, x -> x.two(1, 0), 1);
        Edge.answers("c2;g5000;g5000;", x -> x.two(0, 1), 11);
        // Sitting on, both never are GONE: each is sooner by rising.
        Edge.answers("g5000;g5000;", x -> x.two(0, 1), 11);
        Edge.answers("g3111;g1711;g0200;", x -> x.two(0, 1), -9);
        Edge.answers("g3111;g1711;g0200;", x -> x.two(1, 0), -9);
        // As the HASTY one rises, 99 is sooner for the AUNT than never.
        Edge.answers(HASTY_AND_AUNT, x -> x.two(1, 0), 10);
        Edge.answers(HASTY_AND_AUNT, x -> x.two(0, 1), 1);
        // Here it would be 100, and is no sooner than never.
        Edge.answers("g4930;g3929;", x -> x.two(1, 0), 1);
    }

    @Says("AT REST: sets of those who SIT (none, too), rising now, by which nobody of these who SIT now is GONE sooner by doing otherwise alone: how many; the least; -9.")
    static void atRest() {
        restIs("", 1, 0);
        restIs(Edge.TWO + "o0;o1;", 1, 0);
        restIs("g0003;m01;", 1, 0);
        restIs(Edge.TWO, 2, 1);
        // By RULE 2 all get their cup behind 1 or 3, rising now or a MINUTE later.
        restIs("u2;c5;" + Edge.times(6, "g0003;"), 64, 0);
        restIs("c5;" + Edge.times(5, "g5000;"), 1, 31);
        restIs("c5;" + Edge.times(5, "g5000;") + "o0;g5000;", 1, 62);
        restIs("g3111;g1711;g0200;", 0, -9);
        restIs(HASTY_AND_AUNT, 1, 2);
        restIs("g4930;g3929;", 2, 1);
    }

    private static void restIs(String house, int many, int least) {
        Edge.answers(house, x -> x.rest(0), many);
        Edge.answers(house, x -> x.rest(1), least);
    }

    @Says("GARDEN: by how many MINUTES sooner all others are GONE, were one GONE now (who is not; never: 100): may be below 0.")
    static void garden() {
        Edge.answers(ONE, x -> x.garden(0), 0);
        Edge.answers("g5000;", x -> x.garden(0), 0);
        Edge.answers(Edge.TWO, x -> x.garden(0), 5 - 3);
        Edge.answers(Edge.TWO, x -> x.garden(1), 0);
        Edge.answers(Edge.TWO + "m01;", x -> x.garden(0), 4 - 3);
        Edge.answers(Edge.TWO + "m01;", x -> x.garden(1), 0);
        // The CRAY never, with the other or without.
        Edge.answers(Edge.TWO + "g5000;", x -> x.garden(0), 0);
        Edge.answers(Edge.TWO + "g5000;", x -> x.garden(2), 0);
        // Without him the AUNT is GONE behind 95.
        Edge.answers(Edge.AUNT_AT_99, x -> x.garden(0), 99 - 95);
        Edge.answers(Edge.AUNT_AT_100, x -> x.garden(0), 100 - 95);
        Edge.answers("g0010;" + Edge.AUNT, x -> x.garden(0), 100 - 95);
        // Behind the first the CURATE loses PATIENCE at 16, without him he has all his cups at 33.
        Edge.answers("u1;g0029;g1903;", x -> x.garden(0), 16 - 33);
        Edge.answers("u1;g0029;g1903;o1;", x -> x.garden(0), 0);
    }

    @Says("SERVED: the i-th one (0 ..) who gets a cup from now on within 99 MINUTES (by MINUTES, in one as they are POURED); -9.")
    static void served() {
        Edge.answers(Edge.TWO, x -> x.served(0), 0);
        Edge.answers(Edge.TWO, x -> x.served(1), 1);
        Edge.answers(Edge.TWO, x -> x.served(2), -9);
        Edge.answers(Edge.TWO + "m01;", x -> x.served(0), 1);
        Edge.answers("g5000;", x -> x.served(0), -9);
        Edge.answers("", x -> x.served(0), -9);
        Edge.answers("", x -> x.served(Integer.MAX_VALUE), -9);
        PouredForLeaving five = Edge.of("u3;c5;" + Edge.times(6, "g0003;"));
        for (int i = 0; i < 6; i++) Edge.due("served(" + i + ")", five.served(i), 5 - i);
        Edge.due("served(6)", five.served(6), -9);
        // A cup POURED in MINUTE 99, and one in MINUTE 100.
        Edge.answers(Edge.CUP_AT_99, x -> x.served(5), 1);
        Edge.answers(Edge.CUP_AT_99, x -> x.served(6), -9);
        Edge.answers("g3901;g3910;g3900;", x -> x.served(12), -9);
        Edge.answers("g3901;g3910;g3900;m01;", x -> x.count(4), 1);
        Edge.answers("g3901;g3910;g3900;m01;", x -> x.served(11), 1);
    }

    @Says("WHO IS HE: a ROW tells STATES of one behind 0, 1, .. MINUTES: KINDS (bits) by which it is so; FIGURES (bits); how many THIRSTS (0 .. 30) do.")
    static void who() {
        whoIs("g0000;", 63, 1023, 31);
        whoIs("g0000;", 63, 1023, 31, 0);
        whoIs("g0000;", 0, 0, 0, 1);
        whoIs("g0000;", 0, 0, 0, 4);
        whoIs("g0000;", 0, 0, 0, 99);
        whoIs("g0000;o0;", 63, 1023, 31, 3, 3, 3, 3, 3, 3, 3, 3, 3, 3, 3, 3);
        // 12 numbers: a STILL and a CRAY alone sit on so long; a STILL of FIGURE 0, and of 9, gets up with the last.
        whoIs("g2000;", 4 + 32, 1023, 3, 0, 0, 0, 0, 0, 0, 0, 0, 0, 0, 0, 0);
        whoIs("g2003;", 4, 1, 1, 0, 0, 0, 0, 0, 0, 0, 0, 0, 0, 0, 2);
        whoIs("g2912;", 4, 512, 1, 0, 0, 0, 0, 0, 0, 0, 0, 0, 0, 0, 2);
        // Six MINUTES of drinking are THIRST 26 .. 30, and none takes seven; one is THIRST 0 .. 5.
        whoIs("g4030;m01;", 16, 1023, 5, 2, 2, 2, 2, 2, 2, 3);
        whoIs("g4030;m01;", 1 + 2 + 4 + 8 + 32, 0, 0, 2, 2, 2, 2, 2, 2, 2);
        whoIs("g4001;m01;", 1 + 2 + 4 + 16 + 32, 1023, 6, 2, 3);
        whoIs("g4030;m01;", 0, 0, 6, 2, 3);
    }

    private static void whoIs(String house, int kinds, int figures, int thirsts, int... told) {
        PouredForLeaving x = Edge.of(house);
        Edge.row(x, told);
        Edge.due("KINDS of " + house, x.who(0, 0), kinds);
        Edge.due("FIGURES of " + house, x.who(0, 1), figures);
        Edge.due("THIRSTS of " + house, x.who(0, 2), thirsts);
        Edge.due("the ROW stays", x.count(10), told.length);
    }

    @Says("LOOK: the n (0 .. 30) behind which his STATE by KINDS is most unlike, of several the first; how many.")
    static void look() {
        // Who is GONE is so by every KIND.
        lookIs("g0000;o0;", 0, 0, 1);
        // The HASTY one alone DRINKS behind 1; is GONE behind 2, as the CURATE DRINKS.
        lookIs("g0000;", 0, 2, 3);
        // His cup is empty behind 1: as a CURATE he SITS then, as an AUNT he DRINKS still, else he is GONE.
        lookIs("g0902;r0;m01;", 0, 1, 3);
        // Behind 4 GUEST alone STANDS; CURATE and AUNT DRINK, STILL and CRAY SIT, HASTY is GONE.
        lookIs("g0909;g3828;", 0, 4, 4);
        // Behind 30 all four STATES: GUEST and HASTY are GONE, CURATE STANDS, STILL DRINKS, AUNT and CRAY SIT.
        lookIs("g3407;g1903;", 1, 30, 4);
        // Behind 31, which is not looked at, there would be four; behind 5 there are three.
        lookIs("g3919;g2802;", 0, 5, 3);
    }

    @Says("behind which his STATE by KINDS is most unlike")
    static void lookAgain() {
        // What was seen of one, behind 0 or behind 30, is not held against another.
        PouredForLeaving x = Edge.of("g0000;g0000;o1;");
        Edge.due("look(0, 1)", x.look(0, 1), 3);
        Edge.due("look(1, 1)", x.look(1, 1), 1);
        PouredForLeaving y = Edge.of("g3407;g1903;");
        Edge.due("look(1, 0)", y.look(1, 0), 30);
        Edge.due("look(0, 0)", y.look(0, 0), 3);
        Edge.due("look(0, 1)", y.look(0, 1), 3);
    }

    private static void lookIs(String house, int guest, int n, int many) {
        Edge.answers(house, x -> x.look(guest, 0), n);
        Edge.answers(house, x -> x.look(guest, 1), many);
    }

    @Says("AWAY: in each of n MINUTES (0 .. 8), by itself, the hostess is called away with odds 1 in t (2 .. 20) (nothing is POURED): how likely one has HAD more cups than now or DRINKS behind these: a fraction.")
    static void away() {
        awayIs(ONE, 0, 2, 0, 1);
        awayIs(ONE + "m02;", 0, 2, 1, 1);
        // Who HAD a cup by now has not HAD more.
        awayIs(ONE + "m04;", 0, 2, 0, 1);
        awayIs(ONE + "m04;", 8, 20, 0, 1);
        awayIs("g1302;m03;", 2, 20, 0, 1);
        awayIs("g1302;m03;", 3, 20, 19, 20);
        // He STANDS behind 2 .. 5: without a cup only if she is away each time.
        awayIs(ONE, 1, 2, 0, 1);
        awayIs(ONE, 2, 2, 1, 2);
        awayIs(ONE, 2, 20, 19, 20);
        awayIs(ONE, 3, 3, 8, 9);
        awayIs(ONE, 5, 2, 15, 16);
        awayIs(ONE, 8, 2, 15, 16);
        awayIs(ONE, 8, 20, 159999, 160000);
        // An AUNT has PATIENCE for all 8: she STANDS behind 1.
        awayIs(Edge.AUNT, 8, 20, 25599999999L, 25600000000L);
        awayIs(Edge.AUNT, 8, 2, 255, 256);
    }

    private static void awayIs(String house, int n, int t, long above, long below) {
        Edge.answers(house, x -> x.away(0, n, t, 0), above);
        Edge.answers(house, x -> x.away(0, n, t, 1), below);
    }

    @Says("CROWD: the most who STAND at once behind 0 .. n MINUTES; behind how many first.")
    static void crowd() {
        crowdIs("", 99, 0, 0);
        crowdIs("g5000;", 99, 0, 0);
        crowdIs(Edge.times(6, "g0000;") + "r0;r1;r2;r3;r4;r5;", 0, 6, 0);
        crowdIs(Edge.times(6, "g0000;") + "r0;r1;r2;r3;r4;r5;", 99, 6, 0);
        // Behind 1 one STANDS, behind 2 and 3 two.
        String house = "g0029;m01;g0003;g0002;";
        crowdIs(house, 0, 0, 0);
        crowdIs(house, 1, 1, 1);
        crowdIs(house, 2, 2, 2);
        crowdIs(house, 99, 2, 2);
    }

    private static void crowdIs(String house, int n, int many, int first) {
        Edge.answers(house, x -> x.crowd(n, 0), many);
        Edge.answers(house, x -> x.crowd(n, 1), first);
    }

    @Says("A ROW of numbers (0 .. 99; 12 at most)")
    static void rowOfNumbers() {
        PouredForLeaving x = new PouredForLeaving();
        Edge.due("row(-1)", x.row(-1), -4);
        Edge.due("row(100)", x.row(100), -6);
        for (int i = 1; i <= 12; i++) Edge.due("row", x.row(i % 2 == 0 ? 0 : 99), i);
        Edge.due("a 13th", x.row(0), -6);
        Edge.due("clear()", x.clear(), 12);
        Edge.due("row(99)", x.row(99), 1);
    }

    @Says("JUDGED: THIRST of one behind 0, 1, .. MINUTES: the first that is not so; -9.")
    static void judged() {
        judgedIs(ONE, -9);
        judgedIs(ONE, -9, 2);
        judgedIs(ONE, 0, 3);
        judgedIs(ONE, 0, 3, 0);
        judgedIs(ONE, -9, 2, 3, 4, 2, 0, 0, 0, 0, 0, 0, 0, 0);
        judgedIs(ONE, 11, 2, 3, 4, 2, 0, 0, 0, 0, 0, 0, 0, 1);
        judgedIs(ONE, 1, 2, 2, 4, 2, 0, 0, 0, 0, 0, 0, 0, 1);
        judgedIs("g5030;", -9, 30, 30);
        judgedIs("g5030;", 1, 30, 31);
    }

    private static void judgedIs(String house, int place, int... told) {
        PouredForLeaving x = Edge.of(house);
        Edge.row(x, told);
        Edge.due("judge() behind " + house, x.judge(0), place);
    }

    /** This AUNT, FIGURE 6, is GONE within 60 MINUTES if her THIRST is drawn 16 at most; each needs 4 cups. */
    private static boolean isGoneWith(long draw) {
        return draw <= 16;
    }

    private static long next(long z) {
        return (z * 1103515245L + 12345L) & 0xffffffffL;
    }

    private static long draw(long z) {
        return (z & 0x7fffffffL) / 65536 % 31;
    }

    @Says("LOTS with a seed z: n afternoons (1 .. 20), each from now: THIRST of each GUEST (by numbers) a DRAW below 31, then 60 MINUTES: how many are GONE in all; cups POURED.")
    static void lots() {
        for (int n : new int[] {1, 2, 20}) {
            long z = 99;
            int gone = 0;
            for (int i = 0; i < n; i++) {
                z = next(z);
                if (isGoneWith(draw(z))) gone++;
            }
            int want = gone;
            Edge.answers("g3600;", x -> x.lots(n, 99, 0), want);
        }
        // The second's lot is drawn behind the first's, who is GONE now: he is counted, and has no cup.
        long second = draw(next(next(1)));
        int gone = isGoneWith(second) ? 2 : 1;
        Edge.answers("g0000;g3600;o0;", x -> x.lots(1, 1, 0), gone);
        Edge.answers("g0000;o0;", x -> x.lots(20, 1, 0), 20);
        Edge.answers("g0000;o0;", x -> x.lots(20, 1, 1), 0);
        Edge.answers("g4000;", x -> x.lots(1, 1, 1), 1);
        Edge.answers("g4000;", x -> x.lots(20, 1, 1), 20);
        Edge.answers("", x -> x.lots(20, 1, 0), 0);
        // Cups POURED by now are not counted; each afternoon starts from now.
        Edge.answers("g0003;m05;g4000;", x -> x.lots(20, 1, 1), 20);
        Edge.answers("g0003;m05;g4000;", x -> x.lots(20, 1, 0), 40);
        Edge.answers("g4000;", x -> x.lots(20, 1, 0) + x.count(1) + Edge.thirst(x, 0), 20);
    }

    @Says("DRAWS: z becomes z times 1103515245 plus 12345 (an int, wrapping)")
    static void drawsWrap() {
        for (int seed : new int[] {0, 1, -1, 2, Integer.MAX_VALUE, Integer.MIN_VALUE, -123456789}) {
            long z = seed;
            int gone = 0;
            for (int i = 0; i < 20; i++) {
                z = next(z);
                if (isGoneWith(draw(z))) gone++;
            }
            int want = gone;
            Edge.answers("g3600;", x -> x.lots(20, seed, 0), want);
        }
    }

    @Says("a DRAW below n is (z without its sign's bit, over 65536, cut) modulo n.")
    static void drawsAreBelow() {
        // Seeds with which z is 0, its sign's bit alone, all bits but that, and 31 times 65536 and 1 less.
        drawIs(0, 0);
        drawIs(Integer.MIN_VALUE, 0);
        drawIs(Integer.MAX_VALUE, 32767 % 31);
        drawIs(-1, 32767 % 31);
        drawIs(16 * 65536 + 65535, 16);
        drawIs(17 * 65536, 17);
        drawIs(31 * 65536, 0);
        drawIs(31 * 65536 - 1, 30);
        drawIs(48 * 65536, 17);
        drawIs(48 * 65536 - 1, 16);
        drawIs(Integer.MIN_VALUE + 16 * 65536, 16);
        drawIs(Integer.MIN_VALUE + 17 * 65536, 17);
    }

    /** With the seed ahead of z; 1103515245 times 4005161829 is 1 as an int. */
    private static void drawIs(int z, int draw) {
        int seed = (z - 12345) * (int) 4005161829L;
        Edge.due("z behind the seed", seed * 1103515245 + 12345, z);
        Edge.answers("g3600;", x -> x.lots(1, seed, 0), isGoneWith(draw) ? 1 : 0);
    }
}
