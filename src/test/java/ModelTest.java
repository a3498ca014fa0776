import java.lang.reflect.Method;
import java.util.ArrayList;
import java.util.Arrays;
import java.util.Comparator;
import java.util.List;
import java.util.Map;
import java.util.Random;
import java.util.TreeMap;

/** Drawn runs of calls, each answered by the program and by the Model alike. */
public final class ModelTest {
    private static final int RUNS = 400;
    private static final int CALLS = 250;
    private static final int[] EDGES = {-1, Integer.MIN_VALUE, Integer.MAX_VALUE, 100, 99, 6, 31, 61, 0, -2};

    /** Houses of no rest, and of an AUNT who never is GONE within 99. */
    private static final String[] RARE = {"g3706;g3605;g4909;g2205;u1;", "g3010;g3307;g3205;c2;", "g0010;g3109;g3701;g1007;",
        "g3111;g1711;g0200;", "g3502;g3709;g0403;g3609;", "g0020;g3930;m01;", "g0020;g3930;g2330;"};

    /** Houses in which something comes in the very last MINUTE that is looked at, 99 or 30. */
    private static final String[] LATE = {"g0006;g3930;", "g0008;g3930;", "g1719;g1129;g3201;g3923;", "g3927;g3113;g4028;u1;",
        "g4722;g3729;g3808;u3;", "g3910;g0923;", "g3927;g3814;g4923;g1300;g3705;u3;c2;", "g3722;g3711;g3412;g3929;g0822;u1;",
        "g3930;g3705;g3911;g5906;u3;", "g3830;g3923;g3726;g0820;u3;", "g5704;g3728;g4226;g3921;g3111;u3;",
        "g5804;g5818;g3923;u2;", "g3800;g3704;g3908;g3901;g3908;", "g3611;g2119;g3927;g4728;", "g4028;g3927;g3928;g3909;u2;c2;"};

    private final Random random;
    private final PouredForLeaving program = new PouredForLeaving();
    private final Model model = new Model();
    private final List<String> calls = new ArrayList<>();
    private static final Map<String, Integer> seen = new TreeMap<>();

    private ModelTest(long seed) {
        random = new Random(seed);
    }

    public static void main(String[] args) throws Exception {
        for (int seed = 0; seed < RUNS; seed++) {
            ModelTest test = new ModelTest(seed);
            if (!test.run()) {
                System.out.println("ModelTest, seed " + seed + ": " + String.join(", ", test.calls));
                System.exit(1);
            }
        }
        for (String house : LATE) {
            ModelTest test = new ModelTest(0);
            if (!test.call("house", test.tell(house)) || !test.askAll()) {
                System.out.println("ModelTest, " + house + ": " + String.join(", ", test.calls));
                System.exit(1);
            }
        }
        if (args.length > 0) seen.forEach((answer, many) -> System.out.println(answer + " " + many));
        System.out.println("ModelTest: " + RUNS + " runs are as due");
    }

    private static List<Method> face() {
        List<Method> face = new ArrayList<>();
        for (Method m : PouredForLeaving.class.getDeclaredMethods()) {
            if (java.lang.reflect.Modifier.isPublic(m.getModifiers())) face.add(m);
        }
        face.sort(Comparator.comparing(Method::getName));
        return face;
    }

    private boolean run() throws Exception {
        List<Method> face = face();
        if (!call("house", tell(opening())) || !call("image") || !sets()) return false;
        for (int i = 0; i < CALLS; i++) {
            Method m = face.get(random.nextInt(face.size()));
            boolean wild = random.nextInt(12) == 0;
            if (!one(m.getName(), m.getParameterCount(), wild)) return false;
            if (i % 20 == 19 && model.now.count("GONE") == model.now.guests.size() && !call("restore")) return false;
        }
        return everyCount();
    }

    /** What drawn calls seldom meet: sets and risings while all still SIT. */
    private boolean sets() throws Exception {
        for (int what = 0; what < 2; what++) {
            if (!call("rest", what) || !call("rising", what)) return false;
            for (int g = 0; g < model.now.guests.size(); g++) {
                if (!call("bestRise", g, what) || !call("two", g, what) || !call("two", g, g + 1)) return false;
            }
        }
        return true;
    }

    /** Every question once of each GUEST, as far ahead as can be asked. */
    private boolean askAll() throws Exception {
        boolean fine = sets() && call("stuck") && call("cupsWanted", 99) && call("cupsWanted", 98) && call("hostess", 99)
            && call("dry", 99);
        for (int what = 0; what < 6; what++) fine &= call("all", 98, what) && call("all", 99, what);
        for (int i = 0; i < 32; i++) fine &= call("served", i) && call("leaver", i);
        for (int what = 0; what < 2; what++) {
            fine &= call("gone", what) && call("thirsty", what) && call("bestRule", what) && call("caller", what)
                && call("mean", what) && call("longest", 99, what) && call("waited", 99, what) && call("crowd", 99, what);
            for (int g = 0; g < model.now.guests.size(); g++) {
                fine &= call("leaves", g) && call("tastes", g) && call("garden", g) && call("kept", g)
                    && call("bestRise", g, what) && call("look", g, what) && call("bestOf", g, what);
            }
        }
        return fine;
    }

    private boolean one(String name, int many, boolean wild) throws Exception {
        switch (name) {
            case "feed": return random.nextInt(3) > 0 ? call("house", tell(statement())) : call(name, feedLetter());
            case "slips": if (random.nextInt(4) > 0) return true; else break;
            case "guest": if (random.nextInt(3) > 0) return true; else break;
            case "minutes": return call(name, random.nextInt(3) == 0 ? pick(wild, -2, 70) : 1 + random.nextInt(4));
            case "image": if (random.nextInt(4) > 0) return true; else break;
            case "restore": if (random.nextInt(2) > 0) return true; else break;
            default: break;
        }
        int[] args = new int[many];
        for (int i = 0; i < many; i++) args[i] = argument(name, i, wild && random.nextInt(many) == 0);
        return call(name, args);
    }

    private int argument(String name, int i, boolean wild) {
        switch (name + i) {
            case "guest0": return pick(wild, 0, 5);
            case "guest1": return pick(wild, 0, 9);
            case "guest2": return pick(wild, 0, 30);
            case "cups0": return pick(wild, 1, 5);
            case "rule0": return pick(wild, 0, 3);
            case "guestOf1": return pick(wild, 0, 9);
            case "behind1": case "all0": case "crowd0": case "longest0": case "waited0": case "dry0": case "company2":
            case "hostess0": case "cupsWanted0": return random.nextBoolean() ? pick(wild, 0, 20) : pick(wild, 0, 99);
            case "behind2": case "who1": return pick(wild, 0, 2);
            case "all1": return pick(wild, 0, 5);
            case "served0": case "leaver0": return pick(wild, 0, 8);
            case "away1": return pick(wild, 0, 5 + random.nextInt(4));
            case "away2": return pick(wild, 2, 20);
            case "row0": return random.nextInt(4) == 0 ? pick(wild, 0, 99) : told();
            case "lots0": return pick(wild, 1, 20);
            case "lots1": return random.nextInt();
            case "count0": return pick(wild, 0, 17);
            default: break;
        }
        boolean ofGuest = "guestOf rises slips behind leaves tastes bestRise two garden who look away bestOf kept company judge"
            .contains(name) && (i == 0 || (i == 1 && (name.equals("two") || name.equals("company"))));
        return ofGuest ? pick(wild, 0, Math.max(model.now.guests.size() - 1, 0)) : pick(wild, 0, 1);
    }

    /** What would be told truly of some GUEST next: his STATE or his THIRST. */
    private int told() {
        if (model.now.guests.isEmpty()) return 0;
        Model.Guest g = model.now.on(model.row.size()).guests.get(0);
        return random.nextInt(8) == 0 || model.row.isEmpty() && random.nextBoolean()
            || !model.row.isEmpty() && model.row.get(0) == model.now.guests.get(0).thirst
            ? g.thirst : Model.STATES.indexOf(g.state);
    }

    private int pick(boolean wild, int least, int most) {
        if (wild) return random.nextBoolean() ? EDGES[random.nextInt(EDGES.length)] : random.nextBoolean() ? least - 1 : most + 1;
        return least + random.nextInt(most - least + 1);
    }

    private int feedLetter() {
        return random.nextInt(6) == 0 ? pick(true, 0, 255) : "grocum0123459;x".charAt(random.nextInt(15));
    }

    private String opening() {
        if (random.nextInt(4) == 0) return RARE[random.nextInt(RARE.length)];
        StringBuilder text = new StringBuilder();
        int many = 1 + random.nextInt(6);
        for (int i = 0; i < many; i++) {
            text.append('g').append(random.nextInt(6)).append(random.nextInt(10));
            text.append(String.format("%02d", random.nextInt(random.nextBoolean() ? 31 : 8))).append(';');
        }
        text.append('c').append(1 + random.nextInt(3)).append(";u").append(random.nextInt(4)).append(';');
        return text.toString();
    }

    private String statement() {
        StringBuilder text = new StringBuilder();
        for (int i = random.nextInt(3); i >= 0; i--) {
            char first = "rrocumgx".charAt(random.nextInt(random.nextInt(5) == 0 ? 8 : 6));
            text.append(first);
            if (first == 'g') text.append(random.nextInt(7)).append(random.nextInt(10)).append(random.nextInt(4));
            if (first == 'm') text.append(random.nextInt(9) == 0 ? random.nextInt(8) : 0);
            text.append(random.nextInt(random.nextInt(6) == 0 ? 10 : 5));
            if (random.nextInt(12) > 0) text.append(';');
        }
        return text.toString();
    }

    private int[] tell(String text) throws Exception {
        for (int i = 0; i < text.length(); i++) {
            if (!call("feed", text.charAt(i))) return new int[] {};
        }
        return new int[] {};
    }

    private boolean everyCount() throws Exception {
        for (int what = -1; what <= 18; what++) if (!call("count", what)) return false;
        for (int g = 0; g < model.now.guests.size(); g++) {
            for (int what = 0; what < 10; what++) if (!call("guestOf", g, what)) return false;
        }
        return true;
    }

    private boolean call(String name, int... args) throws Exception {
        Class<?>[] types = new Class<?>[args.length];
        Arrays.fill(types, int.class);
        Object[] given = Arrays.stream(args).boxed().toArray();
        Object got = PouredForLeaving.class.getMethod(name, types).invoke(program, given);
        Object want = Model.class.getDeclaredMethod(name, types).invoke(model, given);
        calls.add(name + Arrays.toString(args) + " = " + got);
        String sort = want.toString().length() > 9 ? want.toString() : ((Number) want).longValue() < 0 ? want.toString() : "else";
        if (!name.equals("house")) seen.merge(name + " " + sort, 1, Integer::sum);
        if (got.equals(want)) return true;
        calls.add("due is " + want);
        return false;
    }
}
