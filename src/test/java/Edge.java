import java.util.Arrays;
import java.util.function.LongSupplier;

/** What the tests of boundary cases have in common. */
final class Edge {
    /** What garden() and kept(), and what away() and mean() answer, less a REFUSAL. */
    static final long LOUD = 1000000000L;
    static final long LONG = 4000000000000000000L;

    /** The first DRINKS, the second STANDS, 2, 4 and 5 SIT, the fourth is GONE; MINUTE 1, POURED 1. */
    static final String MIXED = "g0003;g0003;g5000;g0000;g1900;g5000;o3;m01;";
    /** Both STAND behind 1; the first DRINKS behind 1 and 2, the other behind 3 and 4: GONE behind 3 and 5. */
    static final String TWO = "g0003;g0003;";
    /** Alone this AUNT DRINKS behind 1 .. 30, 39 .. 46, 55 .. 62, 71 .. 78, 87 .. 94, and is GONE behind 95. */
    static final String AUNT = "g3930;";
    /** The first DRINKS till behind 5, the AUNT 4 MINUTES later than alone: she is GONE behind 99. */
    static final String AUNT_AT_99 = "g0006;" + AUNT;
    /** As before, but 1 MINUTE later: she is GONE behind 100. */
    static final String AUNT_AT_100 = "g0008;" + AUNT;
    /** The first DRINKS till behind 13, as long as the AUNT has patience: her last cup is POURED in MINUTE 99. */
    static final String CUP_AT_99 = "g0022;" + AUNT;

    static String test = "";
    static int checked = 0;
    static int wrong = 0;

    private Edge() {
    }

    interface Ask {
        long of(PouredForLeaving x, int v);
    }

    interface Call {
        long on(PouredForLeaving x);
    }

    static void due(String call, long got, long want) {
        checked++;
        if (got == want) return;
        wrong++;
        System.out.println("BoundaryTest, " + test + ": " + call + " answered " + got + ", due is " + want);
    }

    static PouredForLeaving of(String text) {
        PouredForLeaving x = new PouredForLeaving();
        int answer = tell(x, text);
        if (answer < 0 && !text.isEmpty()) due("house() of " + text, answer, 1);
        return x;
    }

    static int tell(PouredForLeaving x, String text) {
        for (char letter : text.toCharArray()) x.feed(letter);
        return x.house();
    }

    static String times(int many, String text) {
        return text.repeat(many);
    }

    static String twoDigits(int number) {
        return number < 10 ? "0" + number : String.valueOf(number);
    }

    static void row(PouredForLeaving x, int... numbers) {
        x.clear();
        for (int i = 0; i < numbers.length; i++) due("row(" + numbers[i] + ")", x.row(numbers[i]), i + 1);
    }

    static void pass(PouredForLeaving x, int n) {
        for (int i = 0; i < n; i++) x.minutes(1);
    }

    static int kind(PouredForLeaving x, int guest) {
        return x.guestOf(guest, 0);
    }

    static int thirst(PouredForLeaving x, int guest) {
        return x.guestOf(guest, 2);
    }

    static int state(PouredForLeaving x, int guest) {
        return x.guestOf(guest, 3);
    }

    static int stood(PouredForLeaving x, int guest) {
        return x.guestOf(guest, 4);
    }

    static int had(PouredForLeaving x, int guest) {
        return x.guestOf(guest, 5);
    }

    /** All that can be seen but REFUSALS. */
    static long[] all(PouredForLeaving x) {
        long[] seen = new long[72];
        int size = 0;
        for (int what = 0; what <= 10; what++) seen[size++] = x.count(what);
        seen[size++] = x.count(17);
        for (int guest = 0; guest < x.count(0); guest++) {
            for (int what = 0; what < 10; what++) seen[size++] = x.guestOf(guest, what);
        }
        return seen;
    }

    static int[] refusals(PouredForLeaving x) {
        int[] many = new int[7];
        for (int i = 1; i <= 6; i++) many[i] = x.count(10 + i);
        return many;
    }

    /** A refused call answers the number, is counted, and changes nothing else. */
    static void refused(PouredForLeaving x, String call, LongSupplier answer, int number) {
        refused(x, call, answer, number, 0);
    }

    static void refused(PouredForLeaving x, String call, LongSupplier answer, int number, long less) {
        long[] seen = all(x);
        int[] many = refusals(x);
        due(call, answer.getAsLong(), less == 0 ? number : less - number);
        many[-number]++;
        due(call + " is counted once, as what it is", Arrays.equals(many, refusals(x)) ? 1 : 0, 1);
        due(call + " changes nothing else", Arrays.equals(seen, all(x)) ? 1 : 0, 1);
    }

    /** Not refused with this number; whether for another reason is not asked. */
    static void taken(PouredForLeaving x, String call, LongSupplier answer, int number) {
        int many = x.count(10 - number);
        long got = answer.getAsLong();
        due(call + ", answered " + got + ": is it refused with " + number, x.count(10 - number) - many, 0);
    }

    /** What a call answers on a new object, behind a HOUSE told in letters. */
    static void answers(String house, Call call, long want) {
        due("behind " + house + " the call", call.on(of(house)), want);
    }

    static void refused(String house, Call call, int number) {
        refused(house, call, number, 0);
    }

    static void refused(String house, Call call, int number, long less) {
        PouredForLeaving x = of(house);
        refused(x, "behind " + house + " the call", () -> call.on(x), number, less);
    }

    private static void refused(String house, Ask ask, int v, int number, long less) {
        PouredForLeaving x = of(house);
        refused(x, "with " + v, () -> ask.of(x, v), number, less);
    }

    private static void taken(String house, Ask ask, int v, int number) {
        PouredForLeaving x = of(house);
        taken(x, "with " + v, () -> ask.of(x, v), number);
    }

    /** No such GUEST: below 0, and from as many as there are. */
    static void nobody(long less, Ask ask) {
        for (int guest : new int[] {-1, 6, Integer.MIN_VALUE, Integer.MAX_VALUE}) refused(MIXED, ask, guest, -1, less);
        for (int guest = 0; guest < 6; guest++) taken(MIXED, ask, guest, -1);
        refused(TWO, ask, 2, -1, less);
        taken(TWO, ask, 1, -1);
        refused("", ask, 0, -1, less);
    }

    static void nobody(Ask ask) {
        nobody(0, ask);
    }

    static void other(long less, int many, Ask ask) {
        for (int what : new int[] {-1, many, Integer.MIN_VALUE, Integer.MAX_VALUE}) refused(MIXED, ask, what, -2, less);
        for (int what = 0; what < many; what++) taken(MIXED, ask, what, -2);
    }

    static void other(int many, Ask ask) {
        other(0, many, ask);
    }

    static void below(long less, int least, Ask ask) {
        for (int v : new int[] {least - 1, -1, Integer.MIN_VALUE}) {
            if (v < least) refused(MIXED, ask, v, -4, less);
        }
        taken(MIXED, ask, least, -4);
    }

    static void below(int least, Ask ask) {
        below(0, least, ask);
    }

    static void above(long less, int greatest, Ask ask) {
        for (int v : new int[] {greatest + 1, Integer.MAX_VALUE}) refused(MIXED, ask, v, -6, less);
        taken(MIXED, ask, greatest, -6);
    }

    static void above(int greatest, Ask ask) {
        above(0, greatest, ask);
    }
}
