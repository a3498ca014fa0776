/** Boundary cases in the sections of promises 24 to 47: refused calls, and what there is none of. */
final class RefusalEdgesFrom24 {
    private RefusalEdgesFrom24() {
    }

    @Says(promise = 24, value = "-1;")
    static void gardenOfNobody() {
        Edge.nobody(Edge.LOUD, (x, g) -> x.garden(g));
    }

    @Says(promise = 24, value = "-3 he is GONE.")
    static void gardenOfWhoIsGone() {
        Edge.refused(Edge.MIXED, x -> x.garden(3), -3, Edge.LOUD);
        Edge.refused("g0003;m03;", x -> x.garden(0), -3, Edge.LOUD);
        for (int guest : new int[] {0, 1, 2, 4, 5}) Edge.answers(Edge.MIXED, x -> x.garden(guest), 0);
    }

    @Says(promise = 25, value = "SERVED; -9.")
    static void servedNobody() {
        Edge.answers("", x -> x.served(0), -9);
        Edge.answers(Edge.TWO, x -> x.served(2), -9);
        Edge.answers(Edge.TWO, x -> x.served(Integer.MAX_VALUE), -9);
    }

    @Says(promise = 25, value = "-4.")
    static void servedBelow() {
        Edge.below(0, (x, i) -> x.served(i));
    }

    @Says(promise = 26, value = "(it stays)")
    static void whoLeavesTheRow() {
        PouredForLeaving x = Edge.of(Edge.MIXED);
        Edge.row(x, 0, 3, 99);
        for (int what = -1; what <= 3; what++) x.who(2, what);
        x.who(6, 0);
        Edge.due("numbers in the ROW", x.count(10), 3);
        Edge.due("clear()", x.clear(), 3);
    }

    @Says(promise = 26, value = "-1;")
    static void whoOfNobody() {
        Edge.nobody((x, g) -> x.who(g, 0));
    }

    @Says(promise = 26, value = "-2.")
    static void whoOfOtherWhat() {
        Edge.other(3, (x, w) -> x.who(0, w));
    }

    @Says(promise = 27, value = "-1;")
    static void lookOfNobody() {
        Edge.nobody((x, g) -> x.look(g, 0));
    }

    @Says(promise = 27, value = "-2.")
    static void lookOfOtherWhat() {
        Edge.other(2, (x, w) -> x.look(0, w));
    }

    @Says(promise = 28, value = "part 0 above, 1 below the line")
    static void awayAboveAndBelow() {
        Edge.answers("g0002;", x -> x.away(0, 2, 20, 0), 19);
        Edge.answers("g0002;", x -> x.away(0, 2, 20, 1), 20);
    }

    @Says(promise = 28, value = "-1;")
    static void awayOfNobody() {
        Edge.nobody(Edge.LONG, (x, g) -> x.away(g, 0, 2, 0));
    }

    @Says(promise = 28, value = "-4 (n below 0, t below 2);")
    static void awayBelow() {
        Edge.below(Edge.LONG, 0, (x, n) -> x.away(0, n, 2, 0));
        Edge.below(Edge.LONG, 2, (x, t) -> x.away(0, 0, t, 0));
        Edge.refused(Edge.MIXED, x -> x.away(0, 0, 0, 0), -4, Edge.LONG);
    }

    @Says(promise = 28, value = "-6 (8; 20);")
    static void awayAbove() {
        Edge.above(Edge.LONG, 8, (x, n) -> x.away(0, n, 2, 0));
        Edge.above(Edge.LONG, 20, (x, t) -> x.away(0, 0, t, 0));
    }

    @Says(promise = 28, value = "-2.")
    static void awayOfOtherPart() {
        Edge.other(Edge.LONG, 2, (x, p) -> x.away(0, 0, 2, p));
    }

    @Says(promise = 29, value = "-4;")
    static void crowdBelow() {
        Edge.below(0, (x, n) -> x.crowd(n, 0));
    }

    @Says(promise = 29, value = "-6 99;")
    static void crowdAbove() {
        Edge.above(99, (x, n) -> x.crowd(n, 0));
    }

    @Says(promise = 29, value = "-2.")
    static void crowdOfOtherWhat() {
        Edge.other(2, (x, w) -> x.crowd(0, w));
    }

    @Says(promise = 30, value = "the KIND (what 0; -9), when (1; -9)")
    static void callerIsNeverNone() {
        // The HASTY one is GONE behind 5 MINUTES at most, served or not, whoever is ahead of him.
        for (String house : new String[] {"", "g0029;", "g0003;", "c5;" + Edge.times(5, "g3930;"), Edge.times(5, "g0003;")}) {
            Edge.answers(house, x -> x.caller(0), 4);
            Edge.answers(house, x -> x.caller(1) >= 3 && x.caller(1) <= 5 ? 1 : 0, 1);
        }
    }

    @Says(promise = 30, value = "-2;")
    static void callerOfOtherWhat() {
        for (int what : new int[] {-1, 2, Integer.MIN_VALUE, Integer.MAX_VALUE}) {
            Edge.refused(Edge.TWO, x -> x.caller(what), -2);
        }
        Edge.answers(Edge.TWO, x -> x.caller(0), 4);
        Edge.answers(Edge.TWO, x -> x.caller(1), 4);
    }

    @Says(promise = 30, value = "-3 6 GUESTS there are.")
    static void callerWithoutRoom() {
        Edge.refused(Edge.times(6, "g5000;"), x -> x.caller(0), -3);
        Edge.refused(Edge.times(6, "g5000;"), x -> x.caller(1), -3);
        Edge.refused(Edge.times(6, "g5000;") + "o0;o1;o2;o3;o4;o5;", x -> x.caller(1), -3);
        Edge.answers(Edge.times(5, "g5000;"), x -> x.caller(0), 4);
        Edge.answers(Edge.times(5, "g5000;"), x -> x.caller(1), 3);
    }

    @Says(promise = 32, value = "who (what 0; -9), how many (1; -9)")
    static void longestOfNone() {
        for (int n : new int[] {0, 1, 99}) {
            Edge.answers("", x -> x.longest(n, 0), -9);
            Edge.answers("", x -> x.longest(n, 1), -9);
            Edge.answers("g5000;", x -> x.longest(n, 0), 0);
            Edge.answers("g5000;", x -> x.longest(n, 1), 0);
        }
    }

    @Says(promise = 32, value = "-4;")
    static void longestBelow() {
        Edge.below(0, (x, n) -> x.longest(n, 0));
    }

    @Says(promise = 32, value = "-6 99;")
    static void longestAbove() {
        Edge.above(99, (x, n) -> x.longest(n, 0));
    }

    @Says(promise = 32, value = "-2.")
    static void longestOfOtherWhat() {
        Edge.other(2, (x, w) -> x.longest(0, w));
    }

    @Says(promise = 33, value = "LEAVER; -9.")
    static void leaverNobody() {
        Edge.answers("", x -> x.leaver(0), -9);
        Edge.answers(Edge.TWO, x -> x.leaver(2), -9);
        Edge.answers(Edge.TWO, x -> x.leaver(Integer.MAX_VALUE), -9);
        Edge.answers(Edge.TWO + "o0;o1;", x -> x.leaver(0), -9);
    }

    @Says(promise = 33, value = "-4.")
    static void leaverBelow() {
        Edge.below(0, (x, i) -> x.leaver(i));
    }

    @Says(promise = 34, value = "-4;")
    static void waitedBelow() {
        Edge.below(0, (x, n) -> x.waited(n, 0));
    }

    @Says(promise = 34, value = "-6 99;")
    static void waitedAbove() {
        Edge.above(99, (x, n) -> x.waited(n, 0));
    }

    @Says(promise = 34, value = "-2.")
    static void waitedOfOtherWhat() {
        Edge.other(2, (x, w) -> x.waited(0, w));
    }

    @Says(promise = 35, value = "BEST FIGURE (what 0; -9)")
    static void bestFigureOfNoUse() {
        Edge.answers("g5000;", x -> x.bestOf(0, 0), -9);
        Edge.answers("g5000;o0;", x -> x.bestOf(0, 0), 0);
    }

    @Says(promise = 35, value = "BEST THIRST (1; -9)")
    static void bestThirstOfNoUse() {
        Edge.answers("g5000;", x -> x.bestOf(0, 1), -9);
        Edge.answers("g5000;o0;", x -> x.bestOf(0, 1), 0);
    }

    @Says(promise = 35, value = "-1;")
    static void bestOfOfNobody() {
        Edge.nobody((x, g) -> x.bestOf(g, 0));
    }

    @Says(promise = 35, value = "-2.")
    static void bestOfOfOtherWhat() {
        Edge.other(2, (x, w) -> x.bestOf(0, w));
    }

    @Says(promise = 36, value = "-1;")
    static void keptOfNobody() {
        Edge.nobody(Edge.LOUD, (x, g) -> x.kept(g));
    }

    @Says(promise = 36, value = "-3 he is GONE or DRINKS.")
    static void keptOfWhoIsGoneOrDrinks() {
        for (int guest : new int[] {0, 3}) Edge.refused(Edge.MIXED, x -> x.kept(guest), -3, Edge.LOUD);
        for (int guest : new int[] {1, 2, 4, 5}) Edge.answers(Edge.MIXED, x -> x.kept(guest), 0);
    }

    @Says(promise = 37, value = "-4;")
    static void dryBelow() {
        Edge.below(0, (x, n) -> x.dry(n));
    }

    @Says(promise = 37, value = "-6 99.")
    static void dryAbove() {
        Edge.above(99, (x, n) -> x.dry(n));
    }

    @Says(promise = 38, value = "-1 either (one twice);")
    static void companyOfNobody() {
        Edge.nobody((x, g) -> x.company(g, g == 0 ? 1 : 0, 0));
        Edge.nobody((x, g) -> x.company(g == 0 ? 1 : 0, g, 0));
        for (int guest = 0; guest < 6; guest++) {
            int twice = guest;
            Edge.refused(Edge.MIXED, x -> x.company(twice, twice, 0), -1);
        }
    }

    @Says(promise = 38, value = "-4;")
    static void companyBelow() {
        Edge.below(0, (x, n) -> x.company(0, 1, n));
    }

    @Says(promise = 38, value = "-6 99.")
    static void companyAbove() {
        Edge.above(99, (x, n) -> x.company(0, 1, n));
    }

    @Says(promise = 39, value = "part 0 above, 1 below the line")
    static void meanAboveAndBelow() {
        Edge.answers(Edge.TWO + "g0003;", x -> x.mean(0), 13);
        Edge.answers(Edge.TWO + "g0003;", x -> x.mean(1), 3);
    }

    @Says(promise = 39, value = "-2.")
    static void meanOfOtherPart() {
        Edge.other(Edge.LONG, 2, (x, p) -> x.mean(p));
    }

    @Says(promise = 40, value = "-4;")
    static void hostessBelow() {
        Edge.below(0, (x, n) -> x.hostess(n));
    }

    @Says(promise = 40, value = "-6 99.")
    static void hostessAbove() {
        Edge.above(99, (x, n) -> x.hostess(n));
    }

    @Says(promise = 41, value = "-4;")
    static void rowBelow() {
        Edge.below(0, (x, v) -> x.row(v));
    }

    @Says(promise = 41, value = "-6 (99; 12, too).")
    static void rowAbove() {
        Edge.above(99, (x, v) -> x.row(v));
        PouredForLeaving x = new PouredForLeaving();
        for (int i = 1; i <= 12; i++) Edge.due("row", x.row(99), i);
        Edge.refused(x, "a 13th number", () -> x.row(0), -6);
        x.clear();
        Edge.due("row(0)", x.row(0), 1);
    }

    @Says(promise = 42, value = "JUDGED; -9 (whichever it answers, the ROW has none then).")
    static void judgedRowHasNone() {
        PouredForLeaving x = Edge.of("g0002;");
        Edge.due("judge() without a ROW", x.judge(0), -9);
        Edge.row(x, 2, 3, 4);
        Edge.due("judge()", x.judge(0), -9);
        Edge.due("numbers in the ROW", x.count(10), 0);
        Edge.row(x, 2, 3, 9);
        Edge.due("judge()", x.judge(0), 2);
        Edge.due("numbers in the ROW", x.count(10), 0);
    }

    @Says(promise = 42, value = "-1 (it stays).")
    static void judgeOfNobody() {
        Edge.nobody((x, g) -> x.judge(g));
        PouredForLeaving x = Edge.of("g0002;");
        Edge.row(x, 2, 3, 9);
        Edge.refused(x, "judge(1)", () -> x.judge(1), -1);
        Edge.due("numbers in the ROW", x.count(10), 3);
        Edge.due("judge(0)", x.judge(0), 2);
    }

    @Says(promise = 43, value = "The ROW has none then")
    static void clearedRowHasNone() {
        PouredForLeaving x = new PouredForLeaving();
        Edge.due("clear() of none", x.clear(), 0);
        for (int i = 1; i <= 12; i++) x.row(i);
        Edge.due("clear() of 12", x.clear(), 12);
        Edge.due("numbers in the ROW", x.count(10), 0);
        Edge.due("row(1)", x.row(1), 1);
    }

    @Says(promise = 44, value = "-4;")
    static void lotsBelow() {
        Edge.below(1, (x, n) -> x.lots(n, 0, 0));
    }

    @Says(promise = 44, value = "-6 20;")
    static void lotsAbove() {
        Edge.above(20, (x, n) -> x.lots(n, 0, 0));
    }

    @Says(promise = 44, value = "-2.")
    static void lotsOfOtherWhat() {
        Edge.other(2, (x, w) -> x.lots(1, 0, w));
    }

    @Says(promise = 46, value = "-3 there is none.")
    static void restoreOfNone() {
        Edge.refused("", x -> x.restore(), -3);
        Edge.refused(Edge.MIXED, x -> x.restore(), -3);
        PouredForLeaving x = new PouredForLeaving();
        x.image();
        Edge.due("restore()", x.restore(), 0);
        Edge.due("restore() again", x.restore(), 0);
    }

    @Says(promise = 47, value = "-9 for another what.")
    static void countOfAnotherWhat() {
        PouredForLeaving x = Edge.of(Edge.MIXED);
        for (int what : new int[] {-1, 18, 100, Integer.MIN_VALUE, Integer.MAX_VALUE}) {
            Edge.due("count(" + what + ")", x.count(what), -9);
        }
        for (int what = 11; what <= 16; what++) Edge.due("it is no REFUSAL", x.count(what), 0);
    }

    @Says(promise = 47, value = "11 .. 16 REFUSALS -1 .. -6")
    static void countOfRefusals() {
        PouredForLeaving x = new PouredForLeaving();
        x.leaves(0);
        for (int i = 0; i < 2; i++) x.gone(2);
        for (int i = 0; i < 3; i++) x.back();
        for (int i = 0; i < 4; i++) x.feed(-1);
        for (int i = 0; i < 6; i++) x.feed(256);
        int[] wants = {1, 2, 3, 4, 0, 6};
        for (int i = 0; i < 6; i++) Edge.due("count(" + (11 + i) + ")", x.count(11 + i), wants[i]);
    }

    @Says(promise = 47, value = "17 what can be TAKEN BACK")
    static void countOfTakenBack() {
        PouredForLeaving x = new PouredForLeaving();
        for (int i = 0; i <= 9; i++) {
            Edge.due("count(17)", x.count(17), Math.min(i, 8));
            x.cups(3);
        }
    }
}
