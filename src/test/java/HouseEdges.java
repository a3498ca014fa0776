/** Boundary cases of a HOUSE that is told in letters. */
final class HouseEdges {
    /** One STATEMENT of each kind, each as far as it may go. */
    private static final String GREATEST = "g5930;c5;u3;m60;";

    private HouseEdges() {
    }

    private static void fault(String text, int place) {
        faultBehind("", text, -1000 - place);
    }

    private static void senseless(String text, int place) {
        faultBehind("", text, -2000 - place);
    }

    /** With a FAULT nothing comes, nothing is counted, and the letters are no more. */
    private static void faultBehind(String house, String text, int want) {
        PouredForLeaving x = Edge.of(house);
        long[] seen = Edge.all(x);
        Edge.due("house() of " + text, Edge.tell(x, text), want);
        Edge.due("nothing comes of " + text, java.util.Arrays.equals(seen, Edge.all(x)) ? 1 : 0, 1);
        for (int what = 11; what <= 16; what++) Edge.due("nothing is counted of " + text, x.count(what), 0);
    }

    private static void comes(String house, String text, int statements) {
        Edge.answers(house, x -> Edge.tell(x, text), statements);
    }

    @Says("A HOUSE is told in letters, one by one (96 at most)")
    static void lettersAtMost() {
        PouredForLeaving x = new PouredForLeaving();
        for (int i = 1; i <= 96; i++) Edge.due("feed", x.feed("u3;".charAt((i - 1) % 3)), i);
        Edge.due("a 97th letter", x.feed('u'), -6);
        Edge.due("letters", x.count(9), 96);
        Edge.due("house()", x.house(), 32);
        Edge.due("RULE", x.count(3), 3);
        Edge.due("letters", x.count(9), 0);
        Edge.due("a letter", x.feed('u'), 1);
    }

    @Says("STATEMENTS, each with \";\" behind")
    static void semicolonBehindEach() {
        comes("", "c2;", 1);
        comes("", "c2;u1;", 2);
        fault("c2", 2);
        fault("c2;u1", 5);
        fault("c2u1;", 2);
        fault("c2:u1;", 2);
        fault("c2;;", 3);
        fault(";c2;", 0);
    }

    @Says("\"g\" KIND, FIGURE (a digit each), THIRST (2 digits): a GUEST more")
    static void guestStatement() {
        comes("", "g0000;", 1);
        comes("", "g5930;", 1);
        fault("g;", 1);
        fault("g0;", 2);
        fault("g00;", 3);
        fault("g000;", 4);
        fault("g00000;", 5);
        fault("g/000;", 1);
        fault("g:000;", 1);
        fault("g0/00;", 2);
        fault("g0:00;", 2);
        fault("g00/0;", 3);
        fault("g00:0;", 3);
        fault("g000/;", 4);
        fault("g000:;", 4);
    }

    @Says("\"r\" a GUEST (a digit): he rises (he SAT, and STANDS, STOOD 0)")
    static void risesStatement() {
        Edge.answers("g0000;r0;", x -> Edge.state(x, 0), 1);
        Edge.answers("g0003;g1905;m09;", x -> Edge.stood(x, 1), 2);
        Edge.answers("g0003;g1905;m09;r1;", x -> Edge.stood(x, 1), 0);
        Edge.answers("g0003;g1905;m09;r1;", x -> Edge.state(x, 1), 1);
        fault("r;", 1);
        fault("r/;", 1);
        fault("r:;", 1);
        fault("r00;", 2);
        faultBehind(Edge.MIXED, "r0;", -2000);
        faultBehind(Edge.MIXED, "r1;", -2000);
        faultBehind(Edge.MIXED, "r3;", -2000);
        comes(Edge.MIXED, "r2;", 1);
        comes(Edge.MIXED, "r5;", 1);
    }

    @Says("\"o\" a GUEST (a digit): he slips out by the garden (he SAT or STOOD, and is GONE)")
    static void slipsStatement() {
        Edge.answers(Edge.MIXED + "o2;", x -> Edge.state(x, 2), 3);
        Edge.answers(Edge.MIXED + "o1;", x -> Edge.state(x, 1), 3);
        fault("o;", 1);
        fault("o/;", 1);
        fault("o:;", 1);
        fault("o00;", 2);
        faultBehind(Edge.MIXED, "o0;", -2000);
        faultBehind(Edge.MIXED, "o3;", -2000);
    }

    @Says("\"c\" CUPS (a digit)")
    static void cupsStatement() {
        Edge.answers("c5;c1;", x -> x.count(2), 1);
        Edge.answers("c5;", x -> x.count(2), 5);
        senseless("c0;", 0);
        senseless("c6;", 0);
        fault("c;", 1);
        fault("c/;", 1);
        fault("c:;", 1);
        fault("c10;", 2);
    }

    @Says("\"u\" RULE (a digit)")
    static void ruleStatement() {
        Edge.answers("u3;u0;", x -> x.count(3), 0);
        Edge.answers("u3;", x -> x.count(3), 3);
        senseless("u4;", 0);
        senseless("u9;", 0);
        fault("u;", 1);
        fault("u/;", 1);
        fault("u:;", 1);
        fault("u00;", 2);
    }

    @Says("\"m\" MINUTES (2 digits, 1 .. 60): they go by")
    static void minutesStatement() {
        Edge.answers("m01;", x -> x.count(1), 1);
        Edge.answers("m60;", x -> x.count(1), 60);
        senseless("m00;", 0);
        senseless("m61;", 0);
        senseless("m99;", 0);
        fault("m;", 1);
        fault("m1;", 2);
        fault("m/1;", 1);
        fault("m:1;", 1);
        fault("m1/;", 2);
        fault("m1:;", 2);
        fault("m001;", 3);
    }

    @Says("At least one STATEMENT.")
    static void atLeastOneStatement() {
        fault("", 0);
        Edge.due("house() of a new object", new PouredForLeaving().house(), -1000);
        Edge.answers("c2;", x -> x.house(), -1000);
        comes("", "c2;", 1);
    }

    @Says("FAULT: kind 1 the place of the first letter with which no HOUSE can go on")
    static void firstWrongLetter() {
        fault("c2;x", 3);
        fault("x", 0);
        fault("C2;", 0);
        fault("c2;cx", 4);
        fault("c2; u1;", 3);
        fault("g0x0x;", 2);
        for (int letter = 0; letter <= 255; letter++) {
            if ("grocum".indexOf(letter) >= 0) continue;
            PouredForLeaving x = new PouredForLeaving();
            x.feed(letter);
            Edge.due("house() of letter " + letter, x.house(), -1000);
        }
        PouredForLeaving last = new PouredForLeaving();
        for (int i = 0; i < 95; i++) last.feed("u3;".charAt(i % 3));
        last.feed('x');
        Edge.due("the last of 96", last.house(), -1095);
    }

    @Says("(the end, if something lacks): -1000 less the place")
    static void theEndIfSomethingLacks() {
        for (String statement : new String[] {"g5930;", "r0;", "o0;", "c5;", "u3;", "m60;"}) {
            fault("", 0);
            for (int length = 1; length < statement.length(); length++) {
                fault(statement.substring(0, length), length);
                fault("u1;" + statement.substring(0, length), 3 + length);
            }
        }
    }

    @Says("else kind 2 the place of the first letter of the first STATEMENT")
    static void kindOneGoesAhead() {
        // Of both kinds it is kind 1, though it stands behind.
        fault("c9;x", 3);
        fault("c9;c", 4);
        fault("m00;u9;g9999", 12);
        senseless("c9;", 0);
        senseless("u1;c9;", 3);
        senseless("u1;c9;u9;", 3);
        senseless(GREATEST + "m61;", 16);
        comes("", GREATEST, 4);
    }

    @Says("that, behind all ahead of it in the text, is not as it must be")
    static void behindAllAheadOfIt() {
        comes("", "g0000;r0;", 2);
        senseless("r0;g0000;", 0);
        comes("", "g0000;r0;m02;", 3);
        senseless("g0000;r0;m01;o0;", 13);
        comes("", "c2;" + Edge.TWO + "m03;c1;", 5);
        senseless("c2;" + Edge.TWO + "m02;c1;", 19);
    }

    @Says("(a number out of range")
    static void numberOutOfRange() {
        senseless("g6000;", 0);
        senseless("g9000;", 0);
        senseless("g0031;", 0);
        senseless("g0099;", 0);
        senseless("c0;", 0);
        senseless("c6;", 0);
        senseless("u4;", 0);
        senseless("m00;", 0);
        senseless("m61;", 0);
        comes("", "g5000;g0900;g0030;c1;c5;u0;u3;m01;m60;", 9);
    }

    @Says("no such one")
    static void noSuchOne() {
        senseless("r0;", 0);
        senseless("o0;", 0);
        senseless("g0000;r1;", 6);
        senseless("g0000;o1;", 6);
        senseless(Edge.times(6, "g0000;") + "r6;", 36);
        senseless(Edge.times(6, "g0000;") + "o9;", 36);
        comes("", Edge.times(6, "g0000;") + "r5;o5;", 8);
    }

    @Says("not in such a STATE")
    static void notInSuchAState() {
        senseless("g0000;r0;r0;", 9);
        senseless("g0003;m01;r0;", 10);
        senseless("g0000;o0;r0;", 9);
        senseless("g0003;m01;o0;", 10);
        senseless("g0000;o0;o0;", 9);
        comes("", "g0000;r0;o0;", 3);
        comes("", "g0000;o0;", 2);
    }

    @Says("fewer CUPS than DRINK")
    static void fewerCupsThanDrink() {
        senseless("c2;" + Edge.TWO + "m01;c1;", 19);
        comes("", "c2;" + Edge.TWO + "m01;c2;", 5);
        faultBehind("c5;" + Edge.times(5, "g0003;") + "m01;", "c4;", -2000);
        comes("c5;" + Edge.times(5, "g0003;") + "m01;", "c5;", 1);
        comes("c5;" + Edge.times(4, "g0003;") + "m01;", "c4;", 1);
    }

    @Says("MINUTE above 999")
    static void minuteAbove() {
        String late = Edge.times(16, "m60;");
        faultBehind(late, "m40;", -2000);
        comes(late, "m39;", 1);
        faultBehind(late, "m39;m01;", -2004);
        faultBehind(late, "m38;m02;", -2004);
        comes(late, "m38;m01;", 2);
    }

    @Says("no room): -2000 less the place.")
    static void noRoom() {
        comes("", Edge.times(6, "g0000;"), 6);
        senseless(Edge.times(7, "g0000;"), 36);
        faultBehind(Edge.times(6, "g0000;"), "g0000;", -2000);
        comes(Edge.times(5, "g0000;"), "g0000;", 1);
        // Who is GONE has his number still.
        faultBehind(Edge.times(6, "g0000;"), "o0;g0000;", -2003);
    }

    @Says("Without FAULT all of it comes, with one nothing.")
    static void allOrNothing() {
        PouredForLeaving x = Edge.of("g0003;");
        long[] seen = Edge.all(x);
        Edge.due("a FAULT at the very end", Edge.tell(x, "g0000;r1;o1;c5;u3;m09;m00;"), -2022);
        Edge.due("nothing comes", java.util.Arrays.equals(seen, Edge.all(x)) ? 1 : 0, 1);
        Edge.due("the same without it", Edge.tell(x, "g0000;r1;o1;c5;u3;m09;"), 6);
        Edge.due("GUESTS", x.count(0), 2);
        Edge.due("MINUTE", x.count(1), 9);
        Edge.due("CUPS", x.count(2), 5);
        Edge.due("RULE", x.count(3), 3);
        Edge.due("POURED", x.count(4), 1);
        Edge.due("GONE", x.count(8), 2);
    }
}
