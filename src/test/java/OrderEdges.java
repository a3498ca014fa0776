/** Where a call is refused for several reasons, the answer is the first that its promise tells. */
final class OrderEdges {
    private static final String ORDER = "the first that fits in the order in which it tells them";

    private OrderEdges() {
    }

    @Says(ORDER)
    static void feed() {
        PouredForLeaving x = new PouredForLeaving();
        for (int i = 0; i < 96; i++) x.feed('x');
        Edge.refused(x, "feed(-1), a 97th", () -> x.feed(-1), -4);
    }

    @Says(ORDER)
    static void guestOf() {
        Edge.refused(Edge.MIXED, x -> x.guestOf(6, 10), -1);
        Edge.refused(Edge.MIXED, x -> x.guestOf(-1, -1), -1);
    }

    @Says(ORDER)
    static void guest() {
        String six = Edge.times(6, "g5000;");
        Edge.refused(six, x -> x.guest(6, -1, 31), -2);
        Edge.refused(six, x -> x.guest(-1, 10, -1), -2);
        Edge.refused(six, x -> x.guest(6, 0, 0), -2);
        Edge.refused(six, x -> x.guest(0, -1, 31), -4);
        Edge.refused(six, x -> x.guest(0, 10, -1), -4);
        Edge.refused(six, x -> x.guest(0, 0, -1), -4);
        Edge.refused(six, x -> x.guest(0, 10, 31), -6);
    }

    @Says(ORDER)
    static void cups() {
        // More than 0 DRINK, and more than 5 cups there are not: -3 is left for what is in between.
        String five = "c5;" + Edge.times(5, "g0003;") + "m01;";
        Edge.refused(five, x -> x.cups(0), -4);
        Edge.refused(five, x -> x.cups(Integer.MIN_VALUE), -4);
        Edge.refused(five, x -> x.cups(6), -6);
        Edge.refused(five, x -> x.cups(4), -3);
    }

    @Says(ORDER)
    static void minutes() {
        String late = Edge.times(16, "m60;") + "m39;";
        Edge.refused(late, x -> x.minutes(0), -4);
        Edge.refused(late, x -> x.minutes(61), -6);
    }

    @Says(ORDER)
    static void behind() {
        Edge.refused(Edge.MIXED, x -> x.behind(6, -1, 3), -1);
        Edge.refused(Edge.MIXED, x -> x.behind(-1, 100, 0), -1);
        Edge.refused(Edge.MIXED, x -> x.behind(6, 0, -1), -1);
        Edge.refused(Edge.MIXED, x -> x.behind(0, -1, 3), -4);
        Edge.refused(Edge.MIXED, x -> x.behind(0, 100, 3), -6);
    }

    @Says(ORDER)
    static void all() {
        Edge.refused(Edge.MIXED, x -> x.all(-1, 6), -4);
        Edge.refused(Edge.MIXED, x -> x.all(100, -1), -6);
    }

    @Says(ORDER)
    static void bestRise() {
        Edge.refused(Edge.MIXED, x -> x.bestRise(6, 2), -1);
    }

    @Says(ORDER)
    static void two() {
        Edge.refused(Edge.MIXED, x -> x.two(0, 6), -1);
        Edge.refused(Edge.MIXED, x -> x.two(-1, 1), -1);
        Edge.refused(Edge.MIXED, x -> x.two(3, 3), -1);
    }

    @Says(ORDER)
    static void who() {
        Edge.refused(Edge.MIXED, x -> x.who(6, 3), -1);
    }

    @Says(ORDER)
    static void look() {
        Edge.refused(Edge.MIXED, x -> x.look(6, 2), -1);
    }

    @Says(ORDER)
    static void away() {
        Edge.refused(Edge.MIXED, x -> x.away(6, -1, 21, 2), -1, Edge.LONG);
        Edge.refused(Edge.MIXED, x -> x.away(-1, 9, 1, 2), -1, Edge.LONG);
        Edge.refused(Edge.MIXED, x -> x.away(6, 0, 2, 2), -1, Edge.LONG);
        Edge.refused(Edge.MIXED, x -> x.away(0, -1, 21, 2), -4, Edge.LONG);
        Edge.refused(Edge.MIXED, x -> x.away(0, 9, 1, 2), -4, Edge.LONG);
        Edge.refused(Edge.MIXED, x -> x.away(0, 9, 2, 2), -6, Edge.LONG);
        Edge.refused(Edge.MIXED, x -> x.away(0, 0, 21, -1), -6, Edge.LONG);
    }

    @Says(ORDER)
    static void crowd() {
        Edge.refused(Edge.MIXED, x -> x.crowd(-1, 2), -4);
        Edge.refused(Edge.MIXED, x -> x.crowd(100, -1), -6);
    }

    @Says(ORDER)
    static void caller() {
        Edge.refused(Edge.MIXED, x -> x.caller(2), -2);
        Edge.refused(Edge.MIXED, x -> x.caller(-1), -2);
    }

    @Says(ORDER)
    static void longest() {
        Edge.refused("", x -> x.longest(-1, 2), -4);
        Edge.refused("", x -> x.longest(100, -1), -6);
        Edge.refused("", x -> x.longest(0, 2), -2);
    }

    @Says(ORDER)
    static void waited() {
        Edge.refused(Edge.MIXED, x -> x.waited(-1, 2), -4);
        Edge.refused(Edge.MIXED, x -> x.waited(100, -1), -6);
    }

    @Says(ORDER)
    static void bestOf() {
        Edge.refused(Edge.MIXED, x -> x.bestOf(6, 2), -1);
    }

    @Says(ORDER)
    static void company() {
        Edge.refused(Edge.MIXED, x -> x.company(0, 6, -1), -1);
        Edge.refused(Edge.MIXED, x -> x.company(-1, 0, 100), -1);
        Edge.refused(Edge.MIXED, x -> x.company(1, 1, -1), -1);
    }

    @Says(ORDER)
    static void row() {
        PouredForLeaving x = new PouredForLeaving();
        for (int i = 0; i < 12; i++) x.row(0);
        Edge.refused(x, "row(-1), a 13th", () -> x.row(-1), -4);
        Edge.refused(x, "row(100), a 13th", () -> x.row(100), -6);
    }

    @Says(ORDER)
    static void lots() {
        Edge.refused(Edge.MIXED, x -> x.lots(0, 0, 2), -4);
        Edge.refused(Edge.MIXED, x -> x.lots(21, 0, -1), -6);
    }
}
