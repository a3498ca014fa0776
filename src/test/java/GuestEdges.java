/** Boundary cases of GUESTS, of their KINDS, and of a MINUTE. */
final class GuestEdges {
    private GuestEdges() {
    }

    @Says("GUESTS 0 .. 5 as they come (6 at most)")
    static void sixGuests() {
        PouredForLeaving x = new PouredForLeaving();
        for (int guest = 0; guest <= 5; guest++) Edge.due("guest", x.guest(0, 0, 0), guest);
        Edge.due("a seventh", x.guest(0, 0, 0), -6);
        Edge.due("GUESTS", x.count(0), 6);
        Edge.due("KIND of 5", x.guestOf(5, 0), 0);
        Edge.due("KIND of 6", x.guestOf(6, 0), -1);
    }

    @Says("0 GUEST; 1 CURATE under GUEST; 2 STILL under GUEST; 3 AUNT under CURATE; 4 HASTY under GUEST; 5 CRAY under STILL")
    static void sixKinds() {
        for (int kind = 0; kind <= 5; kind++) {
            int k = kind;
            Edge.answers("", x -> x.guest(k, 0, 0), 0);
            Edge.answers("g" + kind + "000;", x -> x.guestOf(0, 0), kind);
        }
        Edge.answers("", x -> x.guest(-1, 0, 0), -2);
        Edge.answers("", x -> x.guest(6, 0, 0), -2);
    }

    @Says("a FIGURE (0 .. 9)")
    static void figures() {
        for (int figure = 0; figure <= 9; figure++) {
            int f = figure;
            Edge.answers("", x -> x.guest(0, f, 0), 0);
            Edge.answers("g0" + figure + "00;", x -> x.guestOf(0, 1), figure);
        }
        Edge.answers("", x -> x.guest(0, -1, 0), -4);
        Edge.answers("", x -> x.guest(0, 10, 0), -6);
    }

    @Says("THIRST (0 .. 30), a STATE")
    static void thirsts() {
        Edge.answers("", x -> x.guest(0, 0, 0), 0);
        Edge.answers("", x -> x.guest(0, 0, 30), 0);
        Edge.answers("", x -> x.guest(0, 0, -1), -4);
        Edge.answers("", x -> x.guest(0, 0, 31), -6);
        Edge.answers("g0000;", x -> Edge.thirst(x, 0), 0);
        Edge.answers("g0030;", x -> Edge.thirst(x, 0), 30);
    }

    @Says("a STATE: 0 SITS (at first), 1 STANDS, 2 DRINKS, 3 GONE")
    static void sitsAtFirst() {
        Edge.answers("g0030;", x -> Edge.state(x, 0), 0);
        Edge.answers("g4930;", x -> Edge.state(x, 0), 0);
        Edge.answers(Edge.MIXED, x -> Edge.state(x, 4), 0);
        Edge.answers(Edge.MIXED, x -> Edge.state(x, 1), 1);
        Edge.answers(Edge.MIXED, x -> Edge.state(x, 0), 2);
        Edge.answers(Edge.MIXED, x -> Edge.state(x, 3), 3);
    }

    @Says("STOOD (minutes he stands so far, 0 .. 99; 0 at first)")
    static void stoodAtFirst() {
        Edge.answers("g0030;", x -> Edge.stood(x, 0), 0);
        Edge.answers("g1930;r0;", x -> Edge.stood(x, 0), 0);
        // None has more PATIENCE than 12: this one is GONE as he has STOOD 13.
        Edge.answers("g0029;g1930;m13;", x -> Edge.stood(x, 1), 12);
        Edge.answers("g0029;g1930;m14;", x -> Edge.stood(x, 1), 13);
        Edge.answers("g0029;g1930;m60;m39;", x -> Edge.stood(x, 1), 13);
    }

    @Says("HAD (cups he had, 0 .. 99; 0 at first)")
    static void hadAtFirst() {
        Edge.answers(Edge.AUNT, x -> Edge.had(x, 0), 0);
        Edge.answers(Edge.AUNT + "m30;", x -> Edge.had(x, 0), 0);
        Edge.answers(Edge.AUNT + "m31;", x -> Edge.had(x, 0), 1);
        // None wants more than 5.
        Edge.answers(Edge.AUNT + "m60;m60;", x -> Edge.had(x, 0), 5);
    }

    @Says("CUPS (1 .. 5; 1 at first)")
    static void oneCupAtFirst() {
        Edge.answers("", x -> x.count(2), 1);
        Edge.answers("", x -> x.cups(0), -4);
        Edge.answers("", x -> x.cups(1), 1);
        Edge.answers("", x -> x.cups(5), 1);
        Edge.answers("", x -> x.cups(6), -6);
        Edge.answers("c5;", x -> x.count(2), 5);
    }

    @Says("RULE (0 .. 3; 0 at first)")
    static void ruleAtFirst() {
        Edge.answers("", x -> x.count(3), 0);
        Edge.answers("", x -> x.rule(-1), -2);
        Edge.answers("u3;", x -> x.rule(0), 3);
        Edge.answers("", x -> x.rule(3), 0);
        Edge.answers("", x -> x.rule(4), -2);
        Edge.answers("u3;", x -> x.count(3), 3);
    }

    @Says("MINUTE (0 .. 999; 0 at first)")
    static void minuteAtFirst() {
        PouredForLeaving x = new PouredForLeaving();
        Edge.due("MINUTE at first", x.count(1), 0);
        for (int i = 0; i < 16; i++) x.minutes(60);
        x.minutes(38);
        Edge.due("MINUTE", x.count(1), 998);
        Edge.due("minutes(2)", x.minutes(2), -6);
        Edge.due("minutes(1)", x.minutes(1), 0);
        Edge.due("MINUTE", x.count(1), 999);
        Edge.due("minutes(1)", x.minutes(1), -6);
        Edge.due("MINUTE", x.count(1), 999);
    }

    @Says("POURED (cups so far; 0 at first)")
    static void pouredAtFirst() {
        Edge.answers("", x -> x.count(4), 0);
        Edge.answers("g0003;r0;", x -> x.count(4), 0);
        Edge.answers("g0003;m01;", x -> x.count(4), 1);
        Edge.answers(Edge.AUNT + "m60;m60;", x -> x.count(4), 5);
    }

    private static void tells(int kind, int figure, int what, int want) {
        Edge.answers("g" + kind + figure + "00;", x -> x.guestOf(0, what), want);
    }

    /** Who comes to a THIRST below his LIMIT SITS, who comes to it has risen. */
    private static void sitsBelow(int kind, int figure, int limit) {
        tells(kind, figure, 6, limit);
        String guest = "g" + kind + figure;
        if (limit > 1) Edge.answers(guest + Edge.twoDigits(limit - 2) + ";m01;", x -> Edge.state(x, 0), 0);
        Edge.answers(guest + Edge.twoDigits(limit - 1) + ";m01;", x -> Edge.state(x, 0), 2);
    }

    @Says("GUEST 4 plus FIGURE")
    static void limitOfGuest() {
        sitsBelow(0, 0, 4);
        sitsBelow(0, 9, 13);
    }

    @Says("CURATE half of a GUEST's, cut")
    static void limitOfCurate() {
        sitsBelow(1, 0, 2);
        sitsBelow(1, 1, 2);
        sitsBelow(1, 2, 3);
        sitsBelow(1, 8, 6);
        sitsBelow(1, 9, 6);
    }

    @Says("STILL 10 more")
    static void limitOfStill() {
        sitsBelow(2, 0, 14);
        sitsBelow(2, 9, 23);
    }

    @Says("AUNT 2 more than a CURATE's;")
    static void limitOfAunt() {
        sitsBelow(3, 0, 4);
        sitsBelow(3, 1, 4);
        sitsBelow(3, 9, 8);
    }

    @Says("HASTY 1;")
    static void limitOfHasty() {
        sitsBelow(4, 0, 1);
        sitsBelow(4, 9, 1);
    }

    @Says("CRAY 99")
    static void limitOfCray() {
        tells(5, 0, 6, 99);
        tells(5, 9, 6, 99);
        // Her THIRST is 30 at most, so she never STANDS of herself.
        Edge.answers("g5030;m60;m60;", x -> Edge.state(x, 0), 0);
    }

    /** The cup is not free for 15 MINUTES more: who STANDS now is there as long as he has PATIENCE. */
    private static void waits(int kind, int figure, int patience) {
        tells(kind, figure, 7, patience);
        String house = "g0029;m01;g" + kind + figure + "00;r1;";
        PouredForLeaving x = Edge.of(house);
        Edge.pass(x, patience);
        Edge.due("STATE as STOOD is his PATIENCE", Edge.state(x, 1), 1);
        Edge.due("STOOD", Edge.stood(x, 1), patience);
        Edge.pass(x, 1);
        Edge.due("STATE as STOOD is above", Edge.state(x, 1), 3);
        Edge.due("STOOD", Edge.stood(x, 1), patience + 1);
    }

    @Says("PATIENCE: GUEST 3;")
    static void patienceOfGuest() {
        waits(0, 0, 3);
        waits(0, 9, 3);
    }

    @Says("CURATE FIGURE more;")
    static void patienceOfCurate() {
        waits(1, 0, 3);
        waits(1, 9, 12);
    }

    @Says("STILL twice a GUEST's")
    static void patienceOfStill() {
        waits(2, 0, 6);
        waits(2, 9, 6);
    }

    @Says("AUNT as a CURATE;")
    static void patienceOfAunt() {
        waits(3, 0, 3);
        waits(3, 9, 12);
    }

    @Says("HASTY 1 less")
    static void patienceOfHasty() {
        waits(4, 0, 2);
        waits(4, 9, 2);
    }

    @Says("CRAY as a STILL")
    static void patienceOfCray() {
        waits(5, 0, 6);
        waits(5, 9, 6);
    }

    private static void sips(int kind, int sip) {
        tells(kind, 0, 8, sip);
        tells(kind, 9, 8, sip);
        Edge.answers("g" + kind + "910;r0;m02;", x -> Edge.thirst(x, 0), 10 - sip);
    }

    @Says("SIP: GUEST 2;")
    static void sipOfGuest() {
        sips(0, 2);
    }

    @Says("AUNT 1;")
    static void sipOfAunt() {
        sips(3, 1);
    }

    @Says("HASTY 5; others as what they are under")
    static void sipOfHastyAndOthers() {
        sips(4, 5);
        sips(1, 2);
        sips(2, 2);
        sips(5, 2);
    }

    @Says("ENOUGH: GUEST 1;")
    static void enoughOfGuest() {
        tells(0, 0, 9, 1);
        tells(0, 9, 9, 1);
        Edge.answers("g0901;r0;m02;", x -> Edge.state(x, 0), 3);
    }

    @Says("CURATE FIGURE over 3, cut, more")
    static void enoughOfCurate() {
        int[] wants = {1, 1, 1, 2, 2, 2, 3, 3, 3, 4};
        for (int figure = 0; figure <= 9; figure++) tells(1, figure, 9, wants[figure]);
        Edge.answers("g1201;r0;m02;", x -> Edge.state(x, 0), 3);
        Edge.answers("g1301;r0;m02;", x -> Edge.state(x, 0), 0);
    }

    @Says("AUNT 1 more than a CURATE's; others")
    static void enoughOfAunt() {
        int[] wants = {2, 2, 2, 3, 3, 3, 4, 4, 4, 5};
        for (int figure = 0; figure <= 9; figure++) tells(3, figure, 9, wants[figure]);
        Edge.answers("g3001;r0;m02;", x -> Edge.state(x, 0), 0);
        Edge.answers("g3001;r0;m02;r0;m02;", x -> Edge.state(x, 0), 3);
    }

    @Says("CURATE's; others as what they are under.")
    static void enoughOfOthers() {
        for (int kind : new int[] {2, 4, 5}) {
            tells(kind, 0, 9, 1);
            tells(kind, 9, 9, 1);
            Edge.answers("g" + kind + "901;r0;m02;", x -> Edge.state(x, 0), 3);
        }
    }

    @Says("MINUTE is 1 more")
    static void aMinuteMore() {
        Edge.answers("m01;", x -> x.count(1), 1);
        Edge.answers("m60;m01;", x -> x.count(1), 61);
    }

    @Says("who SITS has THIRST 1 more (30 at most)")
    static void thirstAtMost() {
        Edge.answers("g5028;m01;", x -> Edge.thirst(x, 0), 29);
        Edge.answers("g5029;m01;", x -> Edge.thirst(x, 0), 30);
        Edge.answers("g5030;m01;", x -> Edge.thirst(x, 0), 30);
        Edge.answers("g5029;m60;", x -> Edge.thirst(x, 0), 30);
        // Nobody else has more.
        Edge.answers(Edge.MIXED + "m01;", x -> Edge.thirst(x, 1), 4);
        Edge.answers(Edge.MIXED + "m01;", x -> Edge.thirst(x, 3), 0);
    }

    @Says("and STANDS, if it is LIMIT or more")
    static void standsAtLimit() {
        // The cup is not free.
        Edge.answers("g0029;m01;g0002;m01;", x -> Edge.state(x, 1), 0);
        Edge.answers("g0029;m01;g0003;m01;", x -> Edge.state(x, 1), 1);
        Edge.answers("g0029;m01;g0004;m01;", x -> Edge.state(x, 1), 1);
        Edge.answers("g0029;m01;g0030;m01;", x -> Edge.state(x, 1), 1);
    }

    @Says("(STOOD 0 behind this MINUTE;")
    static void standsWithNoneStood() {
        Edge.answers("g0029;m01;g0003;m01;", x -> Edge.stood(x, 1), 0);
        Edge.answers("g0029;m01;g0003;m02;", x -> Edge.stood(x, 1), 1);
        // The CURATE STOOD 2, DRANK, SITS, and STANDS again behind 12.
        Edge.answers("g0003;g1905;m11;", x -> Edge.stood(x, 1), 2);
        Edge.answers("g0003;g1905;m12;", x -> Edge.stood(x, 1), 0);
    }

    @Says("it stays as it is while one DRINKS, SITS again, is GONE)")
    static void stoodStays() {
        PouredForLeaving x = Edge.of("g0003;g1905;m03;");
        for (int n = 3; n <= 11; n++) {
            Edge.due("STATE behind " + n, Edge.state(x, 1), n < 6 ? 2 : 0);
            Edge.due("STOOD behind " + n, Edge.stood(x, 1), 2);
            x.minutes(1);
        }
        Edge.answers("g0029;m01;g0003;m05;", y -> Edge.state(y, 1), 3);
        Edge.answers("g0029;m01;g0003;m05;", y -> Edge.stood(y, 1), 4);
        Edge.answers("g0029;m01;g0003;m25;", y -> Edge.stood(y, 1), 4);
        Edge.answers("g0029;m01;g0003;m03;o1;m09;", y -> Edge.stood(y, 1), 2);
    }

    @Says("who STANDS has STOOD 1 more, and is GONE, if it is above PATIENCE")
    static void goneAbovePatience() {
        PouredForLeaving x = Edge.of("g0029;m01;g0003;m01;");
        int[] states = {1, 1, 1, 1, 3, 3};
        int[] stood = {0, 1, 2, 3, 4, 4};
        for (int n = 0; n < 6; n++) {
            Edge.due("STATE " + n + " later", Edge.state(x, 1), states[n]);
            Edge.due("STOOD " + n + " later", Edge.stood(x, 1), stood[n]);
            x.minutes(1);
        }
    }

    @Says("who DRINKS has THIRST SIP less (0 at least)")
    static void thirstAtLeast() {
        Edge.answers("g0004;m03;", x -> Edge.thirst(x, 0), 1);
        Edge.answers("g0004;m04;", x -> Edge.thirst(x, 0), 0);
        Edge.answers("g4005;m02;", x -> Edge.thirst(x, 0), 1);
        Edge.answers("g4005;m03;", x -> Edge.thirst(x, 0), 0);
        Edge.answers("g4000;r0;m02;", x -> Edge.thirst(x, 0), 0);
    }

    @Says("and if it is 0, HAD is 1 more")
    static void hadAsThirstIsNone() {
        Edge.answers("g0004;m03;", x -> Edge.had(x, 0), 0);
        Edge.answers("g0004;m04;", x -> Edge.had(x, 0), 1);
        Edge.answers("g0003;m02;", x -> Edge.had(x, 0), 0);
        Edge.answers("g0003;m03;", x -> Edge.had(x, 0), 1);
        // He DRINKS with THIRST 0: a MINUTE later the cup is empty.
        Edge.answers("g0000;r0;m01;", x -> Edge.had(x, 0), 0);
        Edge.answers("g0000;r0;m01;", x -> Edge.state(x, 0), 2);
        Edge.answers("g0000;r0;m02;", x -> Edge.had(x, 0), 1);
    }

    @Says("and he is GONE, if that is ENOUGH or more, else he SITS")
    static void goneWithEnough() {
        Edge.answers("g1305;m04;", x -> Edge.state(x, 0), 0);
        Edge.answers("g1305;m04;r0;m02;", x -> Edge.state(x, 0), 3);
        Edge.answers("g1305;m04;r0;m02;", x -> Edge.had(x, 0), 2);
        // An AUNT who HAD 2: were she one with ENOUGH 1, 3 cups would be more than that, and she GONE behind 2 MINUTES.
        PouredForLeaving x = Edge.of("g3901;r0;m02;r0;m02;r0;m01;");
        Edge.due("HAD", Edge.had(x, 0), 2);
        Edge.due("STATE", Edge.state(x, 0), 2);
        Edge.row(x, 2, 3);
        Edge.due("KINDS with ENOUGH 3 at most", x.who(0, 0), 1 + 4 + 16 + 32);
    }

    @Says("as long as fewer DRINK than there are CUPS and somebody STANDS")
    static void asManyAsCups() {
        String six = Edge.times(6, "g0003;");
        for (int cups = 1; cups <= 5; cups++) {
            int c = cups;
            Edge.answers(six + "c" + cups + ";m01;", x -> x.count(7), c);
            Edge.answers(six + "c" + cups + ";m01;", x -> x.count(4), c);
            Edge.answers(six + "c" + cups + ";m02;", x -> x.count(4), c);
        }
        // Nobody STANDS but one; fewer CUPS than before, but nobody loses his.
        Edge.answers("c5;g0003;g0000;m01;", x -> x.count(4), 1);
        Edge.answers("c5;g0000;m01;", x -> x.count(4), 0);
        Edge.answers("c5;m01;", x -> x.count(4), 0);
        // A cup is free in the MINUTE in which it is emptied.
        Edge.answers(Edge.TWO + "m03;", x -> Edge.state(x, 1), 2);
    }


    @Says("by RULE 0 who has STOOD longest")
    static void longestFirst() {
        // The cup is not free till behind 3: STOOD is 1, 2 then.
        Edge.answers("g0003;g0002;g0003;", x -> x.served(1), 2);
        Edge.answers("g0003;g0003;g0002;", x -> x.served(1), 1);
    }

    @Says("1 who has most THIRST")
    static void thirstiestFirst() {
        Edge.answers("u1;g0003;g0004;g0005;", x -> x.served(0), 2);
        Edge.answers("u1;g0003;g0005;g0004;", x -> x.served(0), 1);
        Edge.answers("u1;g0005;g0003;g0004;", x -> x.served(0), 0);
    }

    @Says("2 the least number")
    static void leastFirst() {
        Edge.answers("u2;g0003;g0030;g0030;r1;r2;", x -> x.served(0), 0);
        Edge.answers("u2;g0000;g0003;g0030;r2;", x -> x.served(0), 1);
    }

    @Says("3 the greatest;")
    static void greatestFirst() {
        Edge.answers("u3;g0030;g0030;g0003;r0;r1;", x -> x.served(0), 2);
        Edge.answers("u3;g0030;g0003;g0000;r0;", x -> x.served(0), 1);
    }

    @Says("of several the least number.")
    static void leastOfSeveral() {
        Edge.answers("u0;" + Edge.times(6, "g0003;"), x -> x.served(0), 0);
        Edge.answers("u0;c5;g5000;" + Edge.times(5, "g0003;"), x -> x.served(0), 1);
        Edge.answers("u1;g0003;g0005;g0005;g0005;", x -> x.served(0), 1);
        Edge.answers("u1;c2;g0003;g0005;g0005;g0005;", x -> x.served(1), 2);
    }
}
