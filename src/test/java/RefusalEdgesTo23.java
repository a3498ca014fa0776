/** Boundary cases in the sections of promises 1 to 23: refused calls, and what there is none of. */
final class RefusalEdgesTo23 {
    private RefusalEdgesTo23() {
    }

    @Says(promise = 1, value = "No GUESTS, one CUP.")
    static void newObject() {
        PouredForLeaving x = new PouredForLeaving();
        for (int what = 0; what <= 17; what++) Edge.due("count(" + what + ")", x.count(what), what == 2 ? 1 : 0);
        Edge.due("guestOf(0, 0)", x.guestOf(0, 0), -1);
        Edge.due("back()", x.back(), -3);
        Edge.due("restore()", x.restore(), -3);
        Edge.due("clear()", x.clear(), 0);
    }

    @Says(promise = 2, value = "-4;")
    static void feedBelow() {
        Edge.below(0, (x, v) -> x.feed(v));
    }

    @Says(promise = 2, value = "-6 (255; 96, too).")
    static void feedAbove() {
        Edge.above(255, (x, v) -> x.feed(v));
        PouredForLeaving x = new PouredForLeaving();
        for (int i = 1; i <= 96; i++) Edge.due("feed", x.feed(i), i);
        Edge.refused(x, "a 97th letter", () -> x.feed(0), -6);
        Edge.due("house()", x.house(), -1000);
        Edge.due("feed(255)", x.feed(255), 1);
    }

    @Says(promise = 3, value = "(with a FAULT neither)")
    static void houseTakesAllLetters() {
        PouredForLeaving x = new PouredForLeaving();
        Edge.due("a HOUSE", Edge.tell(x, "c2;"), 1);
        Edge.due("letters", x.count(9), 0);
        Edge.due("kind 1", Edge.tell(x, "c2;c"), -1004);
        Edge.due("letters", x.count(9), 0);
        Edge.due("kind 2", Edge.tell(x, "c2;c9;"), -2003);
        Edge.due("letters", x.count(9), 0);
        Edge.due("a letter", x.feed('x'), 1);
    }

    @Says(promise = 3, value = "the FAULT (nothing is counted)")
    static void houseCountsNothing() {
        for (String text : new String[] {"x", "c", "c0;", "u4;", "r9;", "r0;", "o3;", "m00;", "g0099;", "g9000;", "g0000;"}) {
            PouredForLeaving x = Edge.of(Edge.MIXED);
            boolean fault = Edge.tell(x, text) <= -1000;
            Edge.due(text + " has a FAULT", fault ? 1 : 0, 1);
            for (int what = 11; what <= 16; what++) Edge.due("REFUSALS of " + text, x.count(what), 0);
        }
    }

    @Says(promise = 4, value = "-1;")
    static void guestOfOfNobody() {
        Edge.nobody((x, g) -> x.guestOf(g, 0));
    }

    @Says(promise = 4, value = "-2.")
    static void guestOfOfOtherWhat() {
        Edge.other(10, (x, w) -> x.guestOf(0, w));
    }

    @Says(promise = 5, value = "-2;")
    static void guestOfOtherKind() {
        Edge.other(6, (x, k) -> x.guest(k, 0, 0));
    }

    @Says(promise = 5, value = "-4 either;")
    static void guestBelow() {
        Edge.below(0, (x, v) -> x.guest(0, v, 0));
        Edge.below(0, (x, v) -> x.guest(0, 0, v));
    }

    @Says(promise = 5, value = "-6 (9; 30; 6 there are).")
    static void guestAbove() {
        String five = Edge.times(5, "g5000;");
        Edge.refused(five, x -> x.guest(0, 10, 0), -6);
        Edge.refused(five, x -> x.guest(0, Integer.MAX_VALUE, 0), -6);
        Edge.refused(five, x -> x.guest(0, 0, 31), -6);
        Edge.refused(five, x -> x.guest(0, 0, Integer.MAX_VALUE), -6);
        Edge.answers(five, x -> x.guest(0, 9, 30), 5);
        Edge.refused(five + "g5000;", x -> x.guest(0, 9, 30), -6);
        Edge.refused(five + "g5000;o5;", x -> x.guest(0, 0, 0), -6);
    }

    @Says(promise = 6, value = "-3 he does not SIT.")
    static void risesWhoDoesNotSit() {
        for (int guest : new int[] {0, 1, 3}) Edge.refused(Edge.MIXED, x -> x.rises(guest), -3);
        for (int guest : new int[] {2, 4, 5}) Edge.answers(Edge.MIXED, x -> x.rises(guest), 2);
    }

    @Says(promise = 6, value = "-1;")
    static void risesOfNobody() {
        Edge.nobody((x, g) -> x.rises(g));
    }

    @Says(promise = 7, value = "-3 he DRINKS or is GONE.")
    static void slipsWhoDrinksOrIsGone() {
        for (int guest : new int[] {0, 3}) Edge.refused(Edge.MIXED, x -> x.slips(guest), -3);
        for (int guest : new int[] {1, 2, 4, 5}) Edge.answers(Edge.MIXED, x -> x.slips(guest), 2);
    }

    @Says(promise = 7, value = "-1;")
    static void slipsOfNobody() {
        Edge.nobody((x, g) -> x.slips(g));
    }

    @Says(promise = 8, value = "-4 1;")
    static void cupsBelow() {
        Edge.below(1, (x, v) -> x.cups(v));
    }

    @Says(promise = 8, value = "-6 5;")
    static void cupsAbove() {
        Edge.above(5, (x, v) -> x.cups(v));
    }

    @Says(promise = 8, value = "-3 more DRINK.")
    static void cupsFewerThanDrink() {
        for (int drinking = 1; drinking <= 5; drinking++) {
            String house = "c5;" + Edge.times(drinking, "g0003;") + "m01;";
            int least = drinking;
            if (drinking > 1) Edge.refused(house, x -> x.cups(least - 1), -3);
            if (drinking > 1) Edge.refused(house, x -> x.cups(1), -3);
            Edge.answers(house, x -> x.cups(least), 5);
        }
    }

    @Says(promise = 9, value = "-2.")
    static void ruleOfOtherWhat() {
        Edge.other(4, (x, w) -> x.rule(w));
    }

    @Says(promise = 10, value = "-4 below 1;")
    static void minutesBelow() {
        Edge.below(1, (x, n) -> x.minutes(n));
        Edge.answers(Edge.TWO + "m02;", x -> x.minutes(1), 1);
    }

    @Says(promise = 10, value = "-6 (60; MINUTE above 999).")
    static void minutesAbove() {
        Edge.above(60, (x, n) -> x.minutes(n));
        Edge.answers(Edge.TWO + "g5000;", x -> x.minutes(60), 2);
        String late = Edge.times(16, "m60;");
        Edge.refused(late, x -> x.minutes(40), -6);
        Edge.answers(late, x -> x.minutes(39), 0);
        Edge.answers(late + "m39;", x -> x.count(1), 999);
        Edge.refused(late + "m39;", x -> x.minutes(1), -6);
        Edge.answers(late + "m38;", x -> x.minutes(1), 0);
    }

    @Says(promise = 11, value = "-3 none.")
    static void backOfNone() {
        Edge.refused("", x -> x.back(), -3);
        Edge.refused(Edge.MIXED + "c2;u1;r2;o1;", x -> x.back(), -3);
        PouredForLeaving x = new PouredForLeaving();
        x.cups(5);
        Edge.due("back()", x.back(), 0);
        Edge.refused(x, "back()", x::back, -3);
    }

    @Says(promise = 12, value = "-1;")
    static void behindOfNobody() {
        Edge.nobody((x, g) -> x.behind(g, 0, 0));
    }

    @Says(promise = 12, value = "-4;")
    static void behindBelow() {
        Edge.below(0, (x, n) -> x.behind(0, n, 0));
    }

    @Says(promise = 12, value = "-6 99;")
    static void behindAbove() {
        Edge.above(99, (x, n) -> x.behind(0, n, 0));
    }

    @Says(promise = 12, value = "-2.")
    static void behindOfOtherWhat() {
        Edge.other(3, (x, w) -> x.behind(0, 0, w));
    }

    @Says(promise = 13, value = "-4;")
    static void allBelow() {
        Edge.below(0, (x, n) -> x.all(n, 0));
    }

    @Says(promise = 13, value = "-6 99;")
    static void allAbove() {
        Edge.above(99, (x, n) -> x.all(n, 0));
    }

    @Says(promise = 13, value = "-2.")
    static void allOfOtherWhat() {
        Edge.other(6, (x, w) -> x.all(0, w));
    }

    @Says(promise = 14, value = "LEAVES; -9.")
    static void leavesNever() {
        Edge.answers("g5000;", x -> x.leaves(0), -9);
        Edge.answers("g5000;", x -> x.leaves(0) + x.count(11), -9);
        Edge.answers("g5000;o0;", x -> x.leaves(0), 0);
    }

    @Says(promise = 14, value = "-1.")
    static void leavesOfNobody() {
        Edge.nobody((x, g) -> x.leaves(g));
    }

    @Says(promise = 15, value = "Who first (what 0; -9)")
    static void firstOfNone() {
        Edge.answers("", x -> x.gone(0), -9);
        Edge.answers("g5000;", x -> x.gone(0), -9);
        Edge.answers("g5000;o0;", x -> x.gone(0), 0);
    }

    @Says(promise = 15, value = "all (1; -9; 0 without GUESTS)")
    static void allOfNone() {
        Edge.answers("", x -> x.gone(1), 0);
        Edge.answers("g5000;", x -> x.gone(1), -9);
        Edge.answers("g5000;o0;", x -> x.gone(1), 0);
    }

    @Says(promise = 15, value = "-2.")
    static void goneOfOtherWhat() {
        Edge.other(2, (x, w) -> x.gone(w));
    }

    @Says(promise = 16, value = "TASTES; -9.")
    static void tastesNever() {
        Edge.answers("g5000;", x -> x.tastes(0), -9);
        Edge.answers("g0003;m03;", x -> x.tastes(0), -9);
        Edge.answers("g0003;m02;", x -> x.tastes(0), 0);
    }

    @Says(promise = 16, value = "-1.")
    static void tastesOfNobody() {
        Edge.nobody((x, g) -> x.tastes(g));
    }

    @Says(promise = 17, value = "-2.")
    static void thirstyOfOtherWhat() {
        Edge.other(2, (x, w) -> x.thirsty(w));
    }

    @Says(promise = 18, value = "CUPS WANTED; -9.")
    static void cupsWantedOfNoUse() {
        Edge.answers("g5000;", x -> x.cupsWanted(99), -9);
        Edge.answers(Edge.TWO, x -> x.cupsWanted(2), -9);
        Edge.answers(Edge.TWO, x -> x.cupsWanted(3), 2);
    }

    @Says(promise = 18, value = "-4;")
    static void cupsWantedBelow() {
        Edge.below(0, (x, n) -> x.cupsWanted(n));
    }

    @Says(promise = 18, value = "-6 99.")
    static void cupsWantedAbove() {
        Edge.above(99, (x, n) -> x.cupsWanted(n));
    }

    @Says(promise = 19, value = "-2.")
    static void bestRuleOfOtherWhat() {
        Edge.other(2, (x, w) -> x.bestRule(w));
    }

    @Says(promise = 20, value = "the set (what 0; -9)")
    static void risingOfNoUse() {
        Edge.answers("g5910;g3930;", x -> x.rising(0), -9);
        Edge.answers("g5908;g3930;", x -> x.rising(0), 1);
        Edge.answers("", x -> x.rising(0), 0);
    }

    @Says(promise = 20, value = "when (1; -9)")
    static void risingWhenNever() {
        Edge.answers("g5910;g3930;", x -> x.rising(1), -9);
        Edge.answers("g5908;g3930;", x -> x.rising(1), 99);
        Edge.answers("", x -> x.rising(1), 0);
    }

    @Says(promise = 20, value = "-2.")
    static void risingOfOtherWhat() {
        Edge.other(2, (x, w) -> x.rising(w));
    }

    @Says(promise = 21, value = "m (what 0; -9)")
    static void bestRiseOfNoUse() {
        Edge.answers("g4920;g3930;u2;", x -> x.bestRise(1, 0), -9);
        Edge.answers("g4915;g3930;u2;", x -> x.bestRise(1, 0), 0);
    }

    @Says(promise = 21, value = "when (1; -9)")
    static void bestRiseWhenNever() {
        Edge.answers("g4920;g3930;u2;", x -> x.bestRise(1, 1), -9);
        Edge.answers("g4915;g3930;u2;", x -> x.bestRise(1, 1), 99);
    }

    @Says(promise = 21, value = "-1;")
    static void bestRiseOfNobody() {
        Edge.nobody((x, g) -> x.bestRise(g, 0));
    }

    @Says(promise = 21, value = "-2.")
    static void bestRiseOfOtherWhat() {
        Edge.other(2, (x, w) -> x.bestRise(2, w));
    }

    @Says(promise = 22, value = "TWO; -9.")
    static void twoWithoutRest() {
        Edge.answers("g3111;g1711;g0200;", x -> x.two(0, 1), -9);
        Edge.answers("g3111;g1711;g0200;", x -> x.two(0, 1) + x.count(11) + x.count(13), -9);
    }

    @Says(promise = 22, value = "-1 either (one twice);")
    static void twoOfNobody() {
        Edge.nobody((x, g) -> x.two(g, g == 0 ? 1 : 0));
        Edge.nobody((x, g) -> x.two(g == 0 ? 1 : 0, g));
        for (int guest = 0; guest < 6; guest++) {
            int twice = guest;
            Edge.refused(Edge.MIXED, x -> x.two(twice, twice), -1);
        }
        Edge.refused("", x -> x.two(0, 1), -1);
    }

    @Says(promise = 22, value = "-3 one does not SIT.")
    static void twoWhoDoNotSit() {
        for (int guest : new int[] {0, 1, 3}) {
            Edge.refused(Edge.MIXED, x -> x.two(guest, 2), -3);
            Edge.refused(Edge.MIXED, x -> x.two(5, guest), -3);
        }
        Edge.refused(Edge.MIXED, x -> x.two(0, 1), -3);
        Edge.answers("g5000;g5000;", x -> x.two(0, 1), 11);
    }

    @Says(promise = 23, value = "how many (what 0), the least (1; -9)")
    static void restOfNone() {
        Edge.answers("g3111;g1711;g0200;", x -> x.rest(0), 0);
        Edge.answers("g3111;g1711;g0200;", x -> x.rest(1), -9);
        Edge.answers("", x -> x.rest(0), 1);
        Edge.answers("", x -> x.rest(1), 0);
    }

    @Says(promise = 23, value = "-2.")
    static void restOfOtherWhat() {
        Edge.other(2, (x, w) -> x.rest(w));
    }
}
