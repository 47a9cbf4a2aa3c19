import java.lang.reflect.Method;
import java.lang.reflect.Modifier;
import java.util.ArrayList;
import java.util.Arrays;
import java.util.List;
import java.util.Random;

/** Long runs of mixed calls, each answer compared with the Oracle's. The seeds are fixed: each time the same runs. */
public final class RandomRunsTest {
    private static final int CALLS = 512;
    private static final long THROWN = Long.MIN_VALUE;
    /** Calls 3 to 15 are those that tell. */
    private static final String[] NAMES = {"person", "today", "as", "letter", "term", "waits", "stay", "quash", "month",
        "held", "tear", "copy", "off", "back", "grant", "recall", "kind", "begins", "ends", "counted", "taken", "why",
        "by", "full", "watched", "open", "over", "ring", "check", "image", "take", "count"};
    private static final int[] ODD = {-1, 0, 1, 2, 3, 12, 29, 30, 31, 119, 120, 3599, 3600, 4095, 4096, -2, 400, 401,
        Integer.MAX_VALUE, Integer.MIN_VALUE, Integer.MIN_VALUE + 1, 127, 128, -128, -129, 32767, 32768, -32769};

    /** How often each call that tells is made: in most runs, and in those that come to 400 ENTRIES. */
    private static final int[] MIXED = {2, 8, 16, 10, 5, 5, 6, 3, 3, 7, 5, 5, 6};
    private static final int[] CROWDED = {1, 2, 4, 3, 1, 120, 20, 30, 8, 4, 3, 4, 2};

    private final Random random;
    /** How far the days of this run mostly go. */
    private final int reach;
    private final int people;
    private final int tellShare;
    private final int oddShare;
    private final TermReckoner program = new TermReckoner();
    private final Oracle oracle = new Oracle();
    private final List<String> trail = new ArrayList<>();
    private static final int[] ACCEPTED = new int[13];
    private static final int[] STATUSES = new int[9];

    private RandomRunsTest(long seed) {
        random = new Random(seed);
        int[] reaches = {20, 60, 60, 150, 400, 1200, 3600};
        reach = reaches[random.nextInt(reaches.length)];
        people = random.nextInt(4) == 0 ? 6 : 1 + random.nextInt(2);
        tellShare = random.nextInt(12) == 0 ? 97 : random.nextInt(5) == 0 ? 90 : 20 + random.nextInt(40);
        oddShare = random.nextInt(4) == 0 ? 8 : 2;
    }

    public static void main(String[] args) {
        int first = args.length > 0 ? Integer.parseInt(args[0]) : 0;
        int runs = args.length > 1 ? Integer.parseInt(args[1]) : 400;
        for (int seed = first; seed < first + runs; seed++) {
            if (new RandomRunsTest(seed).run(seed)) {
                Due.pass();
            } else {
                Due.fail("run of seed " + seed + " differs");
            }
        }
        for (int status = 0; status <= 8; status++) {
            Due.same("a status " + status + " was seen", STATUSES[status] > 0, true);
        }
        for (int call = 0; call < ACCEPTED.length; call++) {
            Due.same("an entry of call " + call + " was seen", ACCEPTED[call] > 0, true);
        }
        Due.close("RandomRunsTest");
    }

    private boolean run(long seed) {
        for (int i = 0; i < people; i++) {
            program.person();
            oracle.person();
        }
        for (int i = people; i < CALLS; i++) {
            int op = nextOp();
            int[] a = arguments(op);
            long got = ask(program, op, a);
            long want = ask(oracle, op, a);
            note(op, a, want);
            trail.add(NAMES[op] + Arrays.toString(a) + " -> " + want);
            if (got != want || got == THROWN) {
                System.out.println("seed " + seed + ", call " + i + ": " + NAMES[op] + " answered " + got + ", due is "
                        + want);
                for (String line : trail.subList(Math.max(0, trail.size() - 40), trail.size())) {
                    System.out.println("    " + line);
                }
                return false;
            }
        }
        return true;
    }

    private static void note(int op, int[] a, long answer) {
        int call = op - 3;
        if (call >= 0 && call <= 12 && answer >= 0 && answer <= 8) {
            STATUSES[(int) answer]++;
            if (answer == 0) {
                ACCEPTED[call]++;
            }
        }
    }

    private int nextOp() {
        int n = random.nextInt(100);
        if (n < tellShare) {
            int[] weights = tellShare > 90 ? CROWDED : MIXED;
            int sum = 0;
            for (int w : weights) {
                sum += w;
            }
            int pick = random.nextInt(sum);
            for (int i = 0; i < weights.length; i++) {
                pick -= weights[i];
                if (pick < 0) {
                    return 3 + i;
                }
            }
        }
        n = random.nextInt(100);
        if (n < 5) {
            return random.nextInt(10) == 0 ? 0 : 1;
        }
        if (n < 10) {
            return 2;
        }
        return 16 + random.nextInt(16);
    }

    private int odd(int usual) {
        return random.nextInt(100) < oddShare ? ODD[random.nextInt(ODD.length)] : usual;
    }

    private int aPerson() {
        return odd(random.nextInt(people));
    }

    private int aPlace() {
        return odd(random.nextInt(12));
    }

    private int aDay() {
        return odd(random.nextInt(20) == 0 ? random.nextInt(3600) : random.nextInt(reach));
    }

    private int aMonth() {
        return odd(random.nextInt(10) == 0 ? random.nextInt(120) : random.nextInt(reach / 30 + 1));
    }

    private int aNeed() {
        int most = Math.max(2, random.nextInt(10) == 0 ? 3600 : reach / (1 + random.nextInt(6)));
        return odd(1 + random.nextInt(most));
    }

    private int aSet() {
        int set = 0;
        int places = random.nextInt(5);
        for (int i = 0; i < places; i++) {
            set |= 1 << random.nextInt(12);
        }
        return odd(random.nextInt(6) == 0 ? random.nextInt(4096) : set);
    }

    private int aPart() {
        return odd(random.nextInt(1001));
    }

    private int onTheWay() {
        int today = oracle.count(0);
        if (random.nextInt(3) == 0) {
            return odd(today);
        }
        return odd(today + random.nextInt(Math.max(2, reach / 12)));
    }

    private int[] arguments(int op) {
        int p = aPerson();
        int q = aPlace();
        return switch (op) {
            case 1 -> new int[] {onTheWay()};
            case 2 -> new int[] {random.nextInt(3) == 0 ? -1 : odd(random.nextInt(oracle.count(0) + 1))};
            case 3 -> new int[] {p, q};
            case 4 -> new int[] {p, q, aDay(), aNeed()};
            case 5 -> new int[] {p, q, odd(3 + random.nextInt(3)), aDay(), aNeed(), aSet()};
            case 6 -> stayArguments(p, q);
            case 7 -> new int[] {p, q, aPlace()};
            case 8 -> new int[] {p, aMonth(), random.nextInt(2), odd(random.nextInt(3) == 0 ? random.nextInt(31) : 30)};
            case 9 -> new int[] {p, aMonth(), odd(random.nextInt(30)), odd(random.nextInt(4) == 0 ? 1 : 0)};
            case 10 -> new int[] {p, aMonth()};
            case 11 -> new int[] {p, aMonth(), aPerson(), aMonth()};
            case 12 -> new int[] {p, q, odd(2 + random.nextInt(random.nextInt(4) == 0 ? 99 : 5)), aPart()};
            case 13 -> new int[] {p, q, odd(random.nextInt(8) - 2)};
            case 14 -> new int[] {p, aDay()};
            case 15 -> new int[] {p, q, aDay(), aPart()};
            case 16 -> new int[] {p, q};
            case 17, 18 -> new int[] {p, q, random.nextInt(2)};
            case 19 -> new int[] {p, q, aDay(), random.nextInt(2)};
            case 20, 21, 22 -> new int[] {p, q, aDay()};
            case 23 -> new int[] {p, random.nextInt(2)};
            case 24 -> new int[] {p, aPart(), random.nextInt(2)};
            case 25 -> new int[] {p, aMonth()};
            case 26 -> new int[] {p};
            case 27 -> new int[] {random.nextInt(14) - 1};
            case 28 -> checkArguments(p, q);
            case 29 -> new int[] {odd(random.nextInt(oracle.count(2) + 2)), odd(random.nextInt(8))};
            case 30 -> takeArguments();
            case 31 -> new int[] {odd(random.nextInt(4))};
            default -> new int[0];
        };
    }

    private int[] stayArguments(int p, int q) {
        int from = aDay();
        int to = random.nextInt(10) == 0 ? aDay() : odd(Math.min(3599, from + random.nextInt(Math.max(2, reach / 8))));
        return new int[] {p, q, odd(6 + random.nextInt(2)), from, to, random.nextInt(3) == 0 ? 4095 : aSet()};
    }

    private int[] checkArguments(int p, int q) {
        int day = aDay();
        int bits = 0;
        // Mostly right but for one bit, so that the answer is not always the first day.
        for (int i = 0; i < 32; i++) {
            int why = oracle.why(p, q, day + i);
            bits |= why == 0 || why == 1 ? 1 << i : 0;
        }
        return new int[] {p, q, day, random.nextInt(3) == 0 ? bits : bits ^ 1 << random.nextInt(32)};
    }

    private int[] takeArguments() {
        int call = random.nextInt(13);
        int[] a = arguments(3 + call);
        int[] all = new int[8];
        all[0] = onTheWay();
        all[1] = odd(call);
        System.arraycopy(a, 0, all, 2, a.length);
        return all;
    }

    /** The answer of one of the two; a boolean counts 1 or 0. */
    private static long ask(Object x, int op, int[] a) {
        try {
            Method method = methodOf(x.getClass(), NAMES[op]);
            Class<?>[] types = method.getParameterTypes();
            Object[] arguments = new Object[types.length];
            for (int i = 0; i < types.length; i++) {
                if (types[i] == boolean.class) {
                    arguments[i] = a[i] == 1;
                } else {
                    arguments[i] = a[i];
                }
            }
            Object answer = method.invoke(x, arguments);
            return answer instanceof Boolean yes ? (yes ? 1 : 0) : (Integer) answer;
        } catch (ReflectiveOperationException e) {
            e.printStackTrace(System.out);
            return THROWN;
        }
    }

    private static Method methodOf(Class<?> type, String name) throws NoSuchMethodException {
        for (Method method : type.getDeclaredMethods()) {
            if (method.getName().equals(name) && (method.getModifiers() & Modifier.PRIVATE) == 0) {
                return method;
            }
        }
        throw new NoSuchMethodException(name);
    }
}
