import java.util.Arrays;

/** Boundary cases of parts III and IV, of THE IMAGE, and of REFUSALS. */
final class LaterEdges {
    /** FIGURE 0: STANDS and DRINKS behind 2 MINUTES, is GONE behind 4. */
    private static final String ONE = "g0002;";
    /** Behind 1 the second STANDS, behind 2 and 3 the third too; none of them DRINKS till behind 15. */
    private static final String TWO_WAIT = "g0029;m01;g0003;g0002;";

    private LaterEdges() {
    }

    @Says("An object is used for at most 512 calls after it has been made")
    static void callsAtMost() {
        PouredForLeaving x = new PouredForLeaving();
        for (int i = 0; i < 96; i++) x.feed('x');
        for (int i = 0; i < 12; i++) x.row(99);
        for (int i = 0; i < 6; i++) x.guest(3, 9, 30);
        for (int i = 0; i < 397; i++) x.rule(i % 4);
        Edge.due("call 512", x.behind(5, 99, 0), 3);
        PouredForLeaving y = new PouredForLeaving();
        for (int i = 0; i < 511; i++) y.back();
        Edge.due("call 512", y.count(13), 511);
    }

    @Says("What rises(), slips(), cups(), rule() changed can be TAKEN BACK")
    static void whatCanBeTakenBack() {
        PouredForLeaving x = Edge.of(Edge.MIXED);
        long[] seen = Edge.all(x);
        x.rises(2);
        x.slips(1);
        x.cups(2);
        x.rule(3);
        for (int left = 3; left >= 0; left--) Edge.due("back()", x.back(), left);
        Edge.due("all is as it was", Arrays.equals(seen, Edge.all(x)) ? 1 : 0, 1);
        Edge.due("back()", x.back(), -3);
        // RULE and CUPS are what they were, whatever that is.
        PouredForLeaving z = Edge.of("u2;c4;");
        z.rule(3);
        z.cups(5);
        z.rule(1);
        for (int left = 2; left >= 0; left--) Edge.due("back()", z.back(), left);
        Edge.due("RULE", z.count(3), 2);
        Edge.due("CUPS", z.count(2), 4);
        // With STOOD as it was, too.
        PouredForLeaving y = Edge.of("g0003;g1905;m09;");
        y.rises(1);
        Edge.due("STOOD as he rises", Edge.stood(y, 1), 0);
        y.back();
        Edge.due("STOOD as he SITS", Edge.stood(y, 1), 2);
    }

    @Says("(each that is not refused counts, also if all stays as it was)")
    static void eachNotRefusedCounts() {
        PouredForLeaving x = Edge.of(Edge.MIXED);
        x.rises(0);
        x.rises(6);
        x.slips(3);
        x.slips(-1);
        x.cups(0);
        x.cups(6);
        x.rule(4);
        Edge.due("refused ones", x.count(17), 0);
        x.cups(1);
        Edge.due("CUPS as they were", x.count(17), 1);
        x.rule(0);
        Edge.due("RULE as it was", x.count(17), 2);
        Edge.due("back()", x.back(), 1);
        Edge.due("back()", x.back(), 0);
        Edge.due("CUPS", x.count(2), 1);
    }

    @Says("the latest first, 8 at most (older ones no more")
    static void eightAtMost() {
        PouredForLeaving x = new PouredForLeaving();
        int[] cups = {2, 3, 4, 5, 1, 2, 3, 4, 5};
        for (int i = 0; i < 7; i++) x.cups(cups[i]);
        Edge.due("of 7", x.count(17), 7);
        x.cups(cups[7]);
        Edge.due("of 8", x.count(17), 8);
        x.cups(cups[8]);
        Edge.due("of 9", x.count(17), 8);
        for (int i = 7; i >= 0; i--) {
            Edge.due("back()", x.back(), i);
            Edge.due("CUPS", x.count(2), cups[i]);
        }
        Edge.due("a ninth back()", x.back(), -3);
        eightOfGuests();
        Edge.due("CUPS", x.count(2), 2);
        x.cups(3);
        Edge.due("back() of one more", x.back(), 0);
        Edge.due("CUPS", x.count(2), 2);
    }

    private static void eightOfGuests() {
        PouredForLeaving x = Edge.of(Edge.times(6, "g0000;"));
        for (int guest = 0; guest < 6; guest++) x.rises(guest);
        for (int guest = 0; guest < 3; guest++) x.slips(guest);
        Edge.due("of 9 risings and slips", x.count(17), 8);
        for (int i = 7; i >= 0; i--) {
            Edge.due("back()", x.back(), i);
            int guest = i >= 5 ? i - 5 : i + 1;
            Edge.due("STATE", Edge.state(x, guest), i >= 5 ? 1 : 0);
        }
        Edge.due("STATE of 0, who rose first", Edge.state(x, 0), 1);
    }

    @Says("guest(), minutes(), a HOUSE without FAULT, restore(), where they are not refused, leave none)")
    static void leaveNone() {
        PouredForLeaving x = new PouredForLeaving();
        x.rule(1);
        x.restore();
        Edge.due("restore() without an image", x.count(17), 1);
        x.image();
        Edge.due("image()", x.count(17), 1);
        x.guest(6, 0, 0);
        x.guest(0, 10, 0);
        Edge.due("guest() refused", x.count(17), 1);
        x.guest(0, 0, 0);
        Edge.due("guest()", x.count(17), 0);
        Edge.due("back()", x.back(), -3);
        x.rule(2);
        x.minutes(0);
        x.minutes(61);
        Edge.due("minutes() refused", x.count(17), 1);
        x.minutes(1);
        Edge.due("minutes()", x.count(17), 0);
        Edge.due("back()", x.back(), -3);
        x.rule(3);
        Edge.tell(x, "u0;c9;");
        x.house();
        Edge.due("a HOUSE with a FAULT", x.count(17), 1);
        Edge.tell(x, "u0;");
        Edge.due("a HOUSE", x.count(17), 0);
        Edge.due("back()", x.back(), -3);
        x.rule(3);
        x.restore();
        Edge.due("restore()", x.count(17), 0);
        Edge.due("back()", x.back(), -3);
        Edge.due("RULE", x.count(3), 1);
    }

    @Says("CALLER: of all KINDS (FIGURE 5, THIRST 5; 6 GUESTS at most there are ahead of him) the one who, come now as the last, is GONE soonest, of several the least; -9 none is; when.")
    static void caller() {
        callerIs("", 4, 3);
        callerIs("c2;" + Edge.times(5, "g5000;"), 4, 3);
        // The HASTY one has PATIENCE till behind 3: the cup is free then, or not.
        callerIs("g0003;", 4, 5);
        callerIs("g0005;", 4, 4);
        callerIs("u3;g0029;", 4, 3);
        // His THIRST is 6 behind 1: by RULE 1 he is first if the other's is less.
        callerIs("u1;g0004;", 4, 3);
        callerIs("u1;g0005;", 4, 4);
        Edge.answers(Edge.times(6, "g5000;"), x -> x.caller(0), -3);
        Edge.answers(Edge.times(6, "g5000;") + "o0;", x -> x.caller(0), -3);
        Edge.answers("", x -> x.caller(0) + x.count(0), 4);
    }

    private static void callerIs(String house, int kind, int when) {
        Edge.answers(house, x -> x.caller(0), kind);
        Edge.answers(house, x -> x.caller(1), when);
    }

    @Says("STUCK: 1 if behind 99 MINUTES nobody STANDS or DRINKS, and somebody SITS, else 0.")
    static void stuck() {
        Edge.answers("", x -> x.stuck(), 0);
        Edge.answers(Edge.TWO, x -> x.stuck(), 0);
        Edge.answers("g5000;", x -> x.stuck(), 1);
        Edge.answers("g5000;o0;", x -> x.stuck(), 0);
        Edge.answers("g5000;" + Edge.TWO, x -> x.stuck(), 1);
        // Behind 99 the AUNT is GONE, or DRINKS still, or DRINKS again who SAT behind 98.
        Edge.answers(Edge.AUNT_AT_99 + "g5000;", x -> x.stuck(), 1);
        Edge.answers(Edge.AUNT_AT_100 + "g5000;", x -> x.stuck(), 0);
        Edge.answers(Edge.CUP_AT_99, x -> x.behind(1, 98, 0), 0);
        Edge.answers(Edge.CUP_AT_99, x -> x.stuck(), 0);
    }

    @Says("LONGEST: the one who STOOD the most MINUTES of n (each MINUTE behind which he STANDS), of several the least; how many; -9.")
    static void longest() {
        longestIs("", 0, -9, -9);
        longestIs("", 99, -9, -9);
        longestIs("g0000;", 0, 0, 0);
        longestIs("g5000;g5000;", 99, 0, 0);
        longestIs("g0000;o0;", 99, 0, 0);
        // Behind 0 MINUTES he STANDS, which is none of these; behind 1 he DRINKS.
        longestIs(ONE + "r0;", 99, 0, 0);
        longestIs("g5000;" + Edge.TWO, 99, 2, 2);
        longestIs("g5000;" + Edge.TWO, 1, 2, 1);
        longestIs(TWO_WAIT, 0, 0, 0);
        longestIs(TWO_WAIT, 1, 1, 1);
        longestIs(TWO_WAIT, 4, 1, 4);
        longestIs(TWO_WAIT, 5, 1, 4);
        longestIs(TWO_WAIT, 99, 1, 4);
        longestIs(TWO_WAIT + "m01;", 99, 2, 4);
        longestIs(TWO_WAIT + "m01;", 3, 1, 3);
    }

    private static void longestIs(String house, int n, int who, int many) {
        Edge.answers(house, x -> x.longest(n, 0), who);
        Edge.answers(house, x -> x.longest(n, 1), many);
    }

    @Says("LEAVER: the i-th one (0 ..) to be GONE from now on within 99 MINUTES (by MINUTES, in one by numbers; who is GONE now not counted); -9.")
    static void leaver() {
        Edge.answers(Edge.TWO, x -> x.leaver(0), 0);
        Edge.answers(Edge.TWO, x -> x.leaver(1), 1);
        Edge.answers(Edge.TWO, x -> x.leaver(2), -9);
        Edge.answers(Edge.TWO + "u3;", x -> x.leaver(0), 1);
        Edge.answers(Edge.TWO + "o0;", x -> x.leaver(0), 1);
        Edge.answers(Edge.TWO + "o0;", x -> x.leaver(1), -9);
        Edge.answers("", x -> x.leaver(0), -9);
        Edge.answers("", x -> x.leaver(Integer.MAX_VALUE), -9);
        PouredForLeaving six = Edge.of("u3;c5;" + Edge.times(6, "g0003;"));
        int[] order = {1, 2, 3, 4, 5, 0};
        for (int i = 0; i < 6; i++) Edge.due("leaver(" + i + ")", six.leaver(i), order[i]);
        Edge.due("leaver(6)", six.leaver(6), -9);
        Edge.answers(Edge.AUNT_AT_99, x -> x.leaver(1), 1);
        Edge.answers(Edge.AUNT_AT_100, x -> x.leaver(1), -9);
    }

    @Says("WAITED: all MINUTES of 1 .. n behind which somebody STANDS, each one counted;")
    static void waited() {
        int[] wants = {0, 1, 3, 5, 7, 8, 8};
        for (int n = 0; n < wants.length; n++) {
            int m = n;
            Edge.answers(TWO_WAIT, x -> x.waited(m, 0), wants[n]);
        }
        Edge.answers(TWO_WAIT, x -> x.waited(99, 0), 8);
        // Who STANDS behind 0 is not counted for that.
        Edge.answers(TWO_WAIT + "m02;", x -> x.waited(0, 0), 0);
        Edge.answers(TWO_WAIT + "m02;", x -> x.waited(99, 0), 5);
        Edge.answers("", x -> x.waited(99, 0), 0);
    }

    @Says("IDLE: all CUPS with which nobody DRINKS behind 1 .. n, each counted.")
    static void idle() {
        Edge.answers("", x -> x.waited(99, 1), 99);
        Edge.answers("", x -> x.waited(0, 1), 0);
        Edge.answers("c5;", x -> x.waited(99, 1), 495);
        // One of two cups is his behind 2 and 3.
        int[] wants = {0, 2, 3, 4, 6, 8};
        for (int n = 0; n < wants.length; n++) {
            int m = n;
            Edge.answers("c2;" + ONE, x -> x.waited(m, 1), wants[n]);
        }
        Edge.answers(ONE + "m02;", x -> x.waited(0, 1), 0);
        Edge.answers(ONE + "m02;", x -> x.waited(1, 1), 0);
        Edge.answers("c5;" + Edge.times(5, "g0003;"), x -> x.waited(2, 1), 0);
        Edge.answers("c5;" + Edge.times(5, "g0003;"), x -> x.waited(3, 1), 5);
    }

    @Says("BEST FIGURE of one (0 .. 9): with which he is GONE soonest, of several the least; -9 never;")
    static void bestFigure() {
        Edge.answers("g0901;", x -> x.bestOf(0, 0), 0);
        Edge.answers("g5000;", x -> x.bestOf(0, 0), -9);
        Edge.answers("g0900;o0;", x -> x.bestOf(0, 0), 0);
        // With FIGURE 9 alone he gets up behind the other, and has no PATIENCE for 11 MINUTES of drinking.
        Edge.answers("g2021;g0029;", x -> x.bestOf(0, 0), 9);
        Edge.answers("g2021;g0029;", x -> x.leaves(0), 12);
        Edge.answers("g2921;g0029;", x -> x.leaves(0), 9);
        Edge.answers("g2020;g0029;", x -> x.bestOf(0, 0), 8);
        Edge.answers("g2022;g0029;", x -> x.bestOf(0, 0), 0);
    }

    @Says("BEST THIRST (0 .. 30) likewise.")
    static void bestThirst() {
        Edge.answers("g0030;r0;", x -> x.bestOf(0, 1), 0);
        Edge.answers("g0030;", x -> x.bestOf(0, 1), 3);
        Edge.answers("g2930;", x -> x.bestOf(0, 1), 22);
        Edge.answers("g2000;", x -> x.bestOf(0, 1), 13);
        Edge.answers("g1930;g3905;", x -> x.bestOf(0, 1), 28);
        // With 29 and 30 it is 30 behind 1, as much as the HASTY one has: he is first, and GONE behind 16; else behind 19.
        Edge.answers("u1;g2930;g4330;", x -> x.bestOf(0, 1), 29);
        Edge.answers("g5000;", x -> x.bestOf(0, 1), -9);
        Edge.answers("g0030;o0;", x -> x.bestOf(0, 1), 0);
    }

    @Says("KEPT: by how many MINUTES sooner all others are GONE, were one a CRAY (who SITS then, if he SITS or STANDS; never: 100).")
    static void kept() {
        Edge.answers(ONE, x -> x.kept(0), 0);
        Edge.answers("g5000;", x -> x.kept(0), 0);
        Edge.answers(Edge.TWO, x -> x.kept(0), 5 - 3);
        Edge.answers(Edge.TWO, x -> x.kept(1), 0);
        // The others never, he kept or not.
        Edge.answers(Edge.TWO + "g5000;", x -> x.kept(0), 0);
        Edge.answers(Edge.AUNT_AT_99, x -> x.kept(0), 99 - 95);
        Edge.answers(Edge.AUNT_AT_100, x -> x.kept(0), 100 - 95);
        Edge.answers("g0010;" + Edge.AUNT, x -> x.kept(0), 100 - 95);
        Edge.answers("u1;g0029;g1903;", x -> x.kept(0), 16 - 33);
        // He STANDS and is the next; as a CRAY he SITS, and the third is the next.
        Edge.answers("g0003;g0003;g1203;m01;", x -> x.kept(1), 6 - 4);
    }

    @Says("DRY: how many are GONE behind n MINUTES who HAD none.")
    static void dry() {
        Edge.answers("", x -> x.dry(99), 0);
        Edge.answers(TWO_WAIT, x -> x.dry(0), 0);
        Edge.answers(TWO_WAIT, x -> x.dry(4), 0);
        Edge.answers(TWO_WAIT, x -> x.dry(5), 1);
        Edge.answers(TWO_WAIT, x -> x.dry(6), 2);
        Edge.answers(TWO_WAIT, x -> x.dry(99), 2);
        Edge.answers(TWO_WAIT + "o1;", x -> x.dry(0), 1);
        Edge.answers("g0003;m03;", x -> x.dry(0), 0);
        Edge.answers("g1302;m03;o0;", x -> x.dry(0), 0);
        Edge.answers(Edge.times(6, "g0000;") + "o0;o1;o2;o3;o4;o5;", x -> x.dry(0), 6);
        Edge.answers("g5000;", x -> x.dry(99), 0);
    }

    @Says("COMPANY: behind how many of 1 .. n MINUTES two both DRINK.")
    static void company() {
        String house = "c2;g0003;g0006;";
        int[] wants = {0, 1, 2, 2, 2};
        for (int n = 0; n < wants.length; n++) {
            int m = n;
            Edge.answers(house, x -> x.company(0, 1, m), wants[n]);
            Edge.answers(house, x -> x.company(1, 0, m), wants[n]);
        }
        Edge.answers(house, x -> x.company(0, 1, 99), 2);
        // Behind 0 they both DRINK, which is not counted.
        Edge.answers(house + "m01;", x -> x.company(0, 1, 0), 0);
        Edge.answers(house + "m01;", x -> x.company(0, 1, 99), 1);
        Edge.answers(Edge.TWO, x -> x.company(0, 1, 99), 0);
    }

    @Says("MEAN: LEAVES of all who ever are GONE (within 99) in the mean: a fraction (0 over 1 of none).")
    static void mean() {
        meanIs("", 0, 1);
        meanIs("g5000;", 0, 1);
        meanIs("g0000;o0;", 0, 1);
        meanIs(ONE, 4, 1);
        meanIs(ONE + "o0;" + ONE, 2, 1);
        meanIs(Edge.TWO, 4, 1);
        meanIs(Edge.TWO + "g0003;", 13, 3);
        meanIs(Edge.TWO + "g5000;", 4, 1);
        meanIs(Edge.AUNT_AT_99, 52, 1);
        meanIs(Edge.AUNT_AT_100, 6, 1);
    }

    private static void meanIs(String house, int above, int below) {
        Edge.answers(house, x -> x.mean(0), above);
        Edge.answers(house, x -> x.mean(1), below);
    }

    @Says("BETTER HOSTESS: RULE and CUPS (10 the RULE and the CUPS; from as many as DRINK, 1 at least, to 5) with which THIRST of all (who are not GONE) behind n MINUTES is least, of several the least CUPS, then RULE.")
    static void betterHostess() {
        Edge.answers("u3;c5;", x -> x.hostess(0), 1);
        Edge.answers("u3;c5;", x -> x.hostess(99), 1);
        Edge.answers("u3;c5;" + Edge.TWO, x -> x.hostess(0), 1);
        // THIRST of all can be 180.
        Edge.answers("u3;" + Edge.times(6, "g5030;"), x -> x.hostess(99), 1);
        // Two DRINK now; five.
        Edge.answers("u3;c2;" + Edge.TWO + "m01;", x -> x.hostess(0), 2);
        Edge.answers("c5;" + Edge.times(5, "g0003;") + "m01;", x -> x.hostess(99), 5);
        // Each of five DRINKS behind 2 with 2 less; of six too, five of them.
        Edge.answers(Edge.times(5, "g0003;"), x -> x.hostess(2), 5);
        Edge.answers(Edge.times(6, "g0003;"), x -> x.hostess(2), 5);
        // Both have a cup of 2; or the HASTY one soon has no PATIENCE, and his THIRST goes with him.
        Edge.answers("g0029;g4029;", x -> x.hostess(3), 2);
        Edge.answers("g0029;g4029;", x -> x.hostess(4), 1);
        // 2 CUPS are least; behind 5 MINUTES 1 does, by RULES 1 and 3.
        Edge.answers("g0003;g0029;", x -> x.hostess(4), 2);
        Edge.answers("g0003;g0029;", x -> x.hostess(5), 11);
        // By RULE 2 alone, and by RULE 3, the HASTY one is first, and the other loses PATIENCE.
        Edge.answers("g4422;g0030;r1;", x -> x.hostess(4), 21);
        Edge.answers("g0129;g4930;", x -> x.hostess(5), 31);
        // Who is GONE has THIRST still, which is not looked at.
        Edge.answers("g0030;g0003;o0;", x -> x.hostess(99), 1);
        Edge.answers(Edge.AUNT_AT_99, x -> x.hostess(99), 1);
        Edge.answers(Edge.AUNT_AT_100, x -> x.hostess(99), 11);
    }

    @Says("THE IMAGE: all that there is of I, but it, letters, the ROW, REFUSALS.")
    static void image() {
        PouredForLeaving x = Edge.of(Edge.MIXED + "c3;u2;");
        long[] seen = Edge.all(x);
        Edge.due("image()", x.image(), 1);
        Edge.tell(x, "m09;c1;u0;r5;");
        x.row(7);
        x.feed('u');
        x.leaves(6);
        x.cups(2);
        Edge.due("restore()", x.restore(), 1);
        Edge.due("letters stay", x.count(9), 1);
        Edge.due("the ROW stays", x.count(10), 1);
        Edge.due("REFUSALS stay", x.count(11), 1);
        x.clear();
        x.house();
        Edge.due("all of I is as it was", Arrays.equals(seen, Edge.all(x)) ? 1 : 0, 1);
        // The image stays, and is itself as it was.
        x.minutes(9);
        Edge.due("restore() again", x.restore(), 1);
        Edge.due("all of I is as it was again", Arrays.equals(seen, Edge.all(x)) ? 1 : 0, 1);
        PouredForLeaving y = new PouredForLeaving();
        y.image();
        Edge.tell(y, Edge.times(6, "g0030;"));
        Edge.due("of no GUESTS", y.restore(), 0);
        Edge.due("GUESTS", y.count(0), 0);
        Edge.due("KIND of 0", y.guestOf(0, 0), -1);
    }

    @Says("(Fractions are told in lowest terms; 0 as 0 over 1.)")
    static void lowestTerms() {
        meanIs(ONE + "g0002;c2;", 4, 1);
        meanIs(Edge.TWO, 4, 1);
        meanIs("g0000;g0000;o0;o1;", 0, 1);
        Edge.answers("g5000;", x -> x.away(0, 8, 20, 0), 0);
        Edge.answers("g5000;", x -> x.away(0, 8, 20, 1), 1);
        Edge.answers(ONE + "m02;", x -> x.away(0, 1, 20, 0), 1);
        Edge.answers(ONE + "m02;", x -> x.away(0, 1, 20, 1), 1);
    }

    @Says("REFUSALS (the call answers the number, the first that fits in the order in which it tells them; nothing changes but how many there were)")
    static void refusals() {
        PouredForLeaving x = Edge.of(Edge.MIXED);
        Edge.refused(x, "guest() of all faults", () -> x.guest(6, -1, 31), -2);
        Edge.refused(x, "guest() of no room, and below", () -> x.guest(0, 10, -1), -4);
        Edge.refused(x, "guest() of no room", () -> x.guest(0, 0, 0), -6);
        PouredForLeaving y = new PouredForLeaving();
        for (int what = 11; what <= 16; what++) Edge.due("REFUSALS at first", y.count(what), 0);
        for (int i = 1; i <= 20; i++) {
            y.back();
            Edge.due("REFUSALS -3", y.count(13), i);
        }
        Edge.due("REFUSALS -1", y.count(11), 0);
    }

    @Says("-1 NOBODY: no such GUEST, one twice.")
    static void nobody() {
        Edge.answers("", x -> x.guestOf(0, 0), -1);
        Edge.answers(Edge.TWO, x -> x.guestOf(1, 0), 0);
        Edge.answers(Edge.TWO, x -> x.guestOf(2, 0), -1);
        Edge.answers(Edge.TWO, x -> x.guestOf(-1, 0), -1);
        Edge.answers(Edge.TWO, x -> x.two(1, 1), -1);
        Edge.answers(Edge.TWO, x -> x.company(0, 0, 0), -1);
        Edge.answers(Edge.TWO, x -> x.two(1, 1) + 10 * x.count(11), 9);
    }

    @Says("-2 OTHER: what, KIND, RULE.")
    static void other() {
        Edge.answers("", x -> x.gone(2), -2);
        Edge.answers("", x -> x.gone(-1), -2);
        Edge.answers("", x -> x.guest(6, 0, 0), -2);
        Edge.answers("", x -> x.guest(-1, 0, 0), -2);
        Edge.answers("", x -> x.rule(4), -2);
        Edge.answers("", x -> x.rule(-1), -2);
        Edge.answers("", x -> x.rule(-1) + 10 * x.count(12), 8);
    }

    @Says("-3 STATE: it is not as told.")
    static void wrongState() {
        Edge.answers("g0000;r0;", x -> x.rises(0), -3);
        Edge.answers("", x -> x.back(), -3);
        Edge.answers("", x -> x.restore(), -3);
        Edge.answers("", x -> x.restore() + 10 * x.count(13), 7);
    }

    @Says("-4 BELOW: a number below the least.")
    static void below() {
        Edge.answers("", x -> x.feed(-1), -4);
        Edge.answers("", x -> x.feed(0), 1);
        Edge.answers("", x -> x.cups(0), -4);
        Edge.answers("", x -> x.lots(0, 0, 0), -4);
        Edge.answers("", x -> x.lots(0, 0, 0) + 10 * x.count(14), 6);
        Edge.answers("", x -> x.count(15), 0);
    }

    @Says("-6 ROOM: a number above the greatest, no room.")
    static void room() {
        Edge.answers("", x -> x.feed(256), -6);
        Edge.answers("", x -> x.feed(255), 1);
        Edge.answers(Edge.times(6, "g0000;"), x -> x.guest(0, 0, 0), -6);
        Edge.answers(Edge.times(5, "g0000;"), x -> x.guest(0, 0, 0), 5);
        Edge.answers("", x -> x.feed(256) + 10 * x.count(16), 4);
    }

    @Says("Of garden() 1000000000 less them (-1 as 1000000001)")
    static void loudOfGarden() {
        Edge.answers("", x -> x.garden(0), 1000000001L);
        Edge.answers("g0000;o0;", x -> x.garden(0), 1000000003L);
        // What is no REFUSAL may be below 0.
        Edge.answers("u1;g0029;g1903;", x -> x.garden(0), -17);
        Edge.answers("u1;g0029;g1903;", x -> x.garden(0) + x.count(11) + x.count(12) + x.count(13), -17);
    }

    @Says("of longs 4000000000000000000 less them (-1 as 4000000000000000001).")
    static void loudOfLongs() {
        Edge.answers("", x -> x.away(0, 0, 2, 0), 4000000000000000001L);
        Edge.answers("", x -> x.mean(2), 4000000000000000002L);
        Edge.answers(ONE, x -> x.away(0, -1, 2, 0), 4000000000000000004L);
        Edge.answers(ONE, x -> x.away(0, 9, 2, 0), 4000000000000000006L);
    }
}
