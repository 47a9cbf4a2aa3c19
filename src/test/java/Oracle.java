import java.util.ArrayList;
import java.util.Arrays;
import java.util.List;

/**
 * The document once more, in the plainest way and without thought for cost: each question builds the files from the
 * log, goes along single days, and finds what an ORDER waits for by recursion. RandomRunsTest compares the program
 * with it.
 */
final class Oracle {
    static final int NONE = -1;
    static final int NEVER = 1 << 20;
    static final int DAYS = 3600;

    /** TODAY, call, six arguments, and the NEED of a RECALL. */
    private final List<int[]> log = new ArrayList<>();
    private int persons = 0;
    private int today = 0;
    private int as = NONE;
    private List<Integer> ring = List.of();
    private List<View> built = null;
    private int builtFor = NONE;

    /** One person as known by some entries. */
    static final class View {
        final int[][] places = new int[12][];
        final int[] quashedBy = filled(12, NONE);
        final int[] every = new int[12];
        final int[] left = new int[12];
        final int[] given = new int[12];
        /** A month's row; null: plain or torn. */
        final int[][] rows = new int[120][];
        final boolean[] wide = new boolean[120];
        final boolean[] torn = new boolean[120];
        int grant = NONE;
        final Course[][] courses = new Course[2][12];

        int kind(int p) {
            return places[p] == null ? 0 : places[p][0];
        }

        boolean runs(int p) {
            return kind(p) >= 2 && kind(p) <= 5;
        }

        boolean stands(int p) {
            return runs(p) && quashedBy[p] == NONE;
        }

        boolean isOpen(int m) {
            return torn[m] || (rows[m] != null && rows[m].length < 30);
        }

        boolean held(int day, boolean most) {
            int m = day / 30;
            if (isOpen(m)) {
                return !most;
            }
            return rows[m] == null || rows[m][day % 30] != 0;
        }

        int least(int kind, int p, int day) {
            for (int i = 0; i < 12; i++) {
                int[] o = places[i];
                if (kind(i) == kind && quashedBy[i] == NONE && o[1] <= day && day <= o[2] && (o[4] & 1 << p) != 0) {
                    return i;
                }
            }
            return NONE;
        }

        /** The days that some stay or credit has for a place. */
        boolean[] days(int kind, int p) {
            boolean[] days = new boolean[DAYS];
            for (int i = 0; i < 12; i++) {
                if (kind(i) == kind && quashedBy[i] == NONE && (places[i][4] & 1 << p) != 0) {
                    Arrays.fill(days, places[i][1], places[i][2] + 1, true);
                }
            }
            return days;
        }

        Course course(int p, boolean most) {
            int w = most ? 1 : 0;
            if (courses[w][p] == null) {
                courses[w][p] = new Course(this, p, most);
            }
            return courses[w][p];
        }
    }

    /** How an order that stands goes. */
    static final class Course {
        int begin;
        int end = NEVER;
        final boolean[] counts = new boolean[DAYS];
        final int[] counted = new int[DAYS];
        final int[] taken = new int[DAYS];

        Course(View v, int p, boolean most) {
            begin = begin(v, p, most);
            int[] o = v.places[p];
            int cap = o[3] - up(o[3], v.left[p]);
            int run = 0;
            int sum = 0;
            int n = 0;
            boolean[] stayed = v.days(6, p);
            boolean[] credit = v.days(7, p);
            for (int day = 0; day < DAYS; day++) {
                counts[day] = !stayed[day] && !(end < day) && (credit[day] || (begin <= day && v.held(day, most)));
                run = counts[day] ? run + 1 : 0;
                n += counts[day] ? 1 : 0;
                if (v.every[p] > 0 && run > 0 && run % v.every[p] == 0) {
                    sum++;
                }
                counted[day] = n;
                taken[day] = v.every[p] > 0 ? Math.min(cap, sum) : 0;
                int off = Math.max(0, taken[day] - v.given[p]);
                if (end == NEVER && o[0] != 5 && n + off >= o[3]) {
                    end = day;
                }
            }
        }

        static int begin(View v, int p, boolean most) {
            int[] o = v.places[p];
            int begin = o[1];
            if (o[0] == 3 || o[0] == 5) {
                for (int i = 0; i < 12; i++) {
                    if ((o[4] & 1 << i) != 0 && v.stands(i)) {
                        int end = v.course(i, most).end;
                        begin = end == NEVER ? NEVER : Math.max(begin, end + 1);
                    }
                }
            }
            if (o[0] == 4) {
                int least = NEVER;
                boolean any = false;
                for (int i = 0; i < 12; i++) {
                    if ((o[4] & 1 << i) != 0 && v.stands(i)) {
                        any = true;
                        least = Math.min(least, v.course(i, most).begin);
                    }
                }
                begin = any ? Math.max(begin, least) : begin;
            }
            return begin > 3599 ? NEVER : begin;
        }
    }

    static int[] filled(int n, int v) {
        int[] a = new int[n];
        Arrays.fill(a, v);
        return a;
    }

    static int up(int n, int t) {
        return n * t % 1000 == 0 ? n * t / 1000 : n * t / 1000 + 1;
    }

    /** All files by the first n entries. */
    private List<View> build(int n) {
        if (built != null && builtFor == n) {
            return built;
        }
        List<View> all = new ArrayList<>();
        for (int i = 0; i < 6; i++) {
            all.add(new View());
        }
        for (int[] e : log.subList(0, n)) {
            apply(all, e);
        }
        built = all;
        builtFor = n;
        return all;
    }

    private static void apply(List<View> all, int[] e) {
        View v = all.get(e[2]);
        int b = e[3];
        switch (e[1]) {
            case 0 -> v.places[b] = new int[] {1, 0, 0, 0, 0};
            case 1 -> v.places[b] = new int[] {2, e[4], 0, e[5], 0};
            case 2 -> v.places[b] = new int[] {e[4], e[5], 0, e[6], e[7]};
            case 3 -> v.places[b] = new int[] {e[4], e[5], e[6], 0, e[7]};
            case 4 -> {
                v.places[b] = new int[] {8, 0, 0, 0, 0};
                v.quashedBy[e[4]] = b;
            }
            case 5 -> {
                v.rows[b] = filled(e[5], 1);
                v.wide[b] = e[4] == 1;
                v.torn[b] = false;
            }
            case 6 -> v.rows[b][e[4]] = e[5];
            case 7 -> {
                v.rows[b] = null;
                v.torn[b] = true;
            }
            case 8 -> {
                View to = all.get(e[4]);
                to.rows[e[5]] = v.rows[b].clone();
                to.wide[e[5]] = v.wide[b];
                to.torn[e[5]] = false;
            }
            case 9 -> {
                v.every[b] = e[4];
                v.left[b] = e[5];
            }
            case 10 -> v.given[b] += e[4];
            case 11 -> v.grant = e[3];
            case 12 -> v.places[b] = new int[] {2, e[4], 0, e[8], 0};
            default -> throw new IllegalStateException("call " + e[1]);
        }
    }

    private View now(int person) {
        return build(log.size()).get(person);
    }

    private View asked(int person) {
        int n = 0;
        while (n < log.size() && log.get(n)[0] <= (as == NONE ? today : as)) {
            n++;
        }
        return build(n).get(person);
    }

    private int enter(int call, int... args) {
        int[] e = new int[9];
        e[0] = today;
        e[1] = call;
        System.arraycopy(args, 0, e, 2, args.length);
        log.add(e);
        return 0;
    }

    private boolean in(int x, int from, int to) {
        return x >= from && x <= to;
    }

    private boolean there(int person, int place) {
        return in(person, 0, persons - 1) && in(place, 0, 11);
    }

    private boolean monthThere(int person, int month) {
        return in(person, 0, persons - 1) && in(month, 0, 119);
    }

    private boolean noRoom() {
        return log.size() == 400;
    }

    private static int least(boolean... holds) {
        for (int i = 1; i < holds.length; i++) {
            if (holds[i]) {
                return i;
            }
        }
        return 0;
    }

    int person() {
        return persons == 6 ? NONE : persons++;
    }

    boolean today(int day) {
        if (!in(day, today, 3599)) {
            return false;
        }
        today = day;
        return true;
    }

    int as(int day) {
        if (!in(day, -1, today)) {
            return NONE;
        }
        as = day;
        return 1;
    }

    private int enterIf(int status, int call, int... args) {
        return status == 0 ? enter(call, args) : status;
    }

    int letter(int person, int place) {
        if (!there(person, place)) {
            return 1;
        }
        return enterIf(now(person).kind(place) != 0 ? 2 : noRoom() ? 7 : 0, 0, person, place);
    }

    int term(int person, int place, int from, int need) {
        if (!there(person, place)) {
            return 1;
        }
        boolean three = !in(from, 0, 3599) || !in(need, 1, 3600);
        int status = least(false, false, now(person).kind(place) != 0, three, false, false, false, noRoom());
        return enterIf(status, 1, person, place, from, need);
    }

    int waits(int person, int place, int kind, int from, int need, int set) {
        if (!there(person, place)) {
            return 1;
        }
        View v = now(person);
        boolean two = v.kind(place) != 0;
        boolean three = !in(from, 0, 3599) || !in(need, 1, 3600) || !in(kind, 3, 5) || !in(set, 0, 4095);
        boolean four = false;
        if (!two && !three) {
            List<List<Integer>> rings = new ArrayList<>();
            findRings(v, place, set, new ArrayList<>(List.of(place)), rings);
            four = !rings.isEmpty();
            if (four) {
                ring = best(rings);
            }
        }
        int status = least(false, false, two, three, four, false, false, noRoom());
        return enterIf(status, 2, person, place, kind, from, need, set);
    }

    private static void findRings(View v, int place, int set, List<Integer> way, List<List<Integer>> rings) {
        int last = way.get(way.size() - 1);
        int names = last == place ? set : v.places[last][4];
        for (int i = 0; i < 12; i++) {
            if ((names & 1 << i) == 0) {
                continue;
            }
            if (i == place) {
                rings.add(new ArrayList<>(way));
            } else if (v.runs(i) && !way.contains(i)) {
                way.add(i);
                findRings(v, place, set, way, rings);
                way.remove(way.size() - 1);
            }
        }
    }

    private static List<Integer> best(List<List<Integer>> rings) {
        List<Integer> best = null;
        for (List<Integer> way : rings) {
            int least = 0;
            for (int i = 1; i < way.size(); i++) {
                least = way.get(i) < way.get(least) ? i : least;
            }
            List<Integer> turned = new ArrayList<>(way.subList(least, way.size()));
            turned.addAll(way.subList(0, least));
            if (best == null || turned.size() < best.size()
                    || (turned.size() == best.size() && isLess(turned, best))) {
                best = turned;
            }
        }
        return best;
    }

    private static boolean isLess(List<Integer> a, List<Integer> b) {
        for (int i = 0; i < a.size(); i++) {
            if (!a.get(i).equals(b.get(i))) {
                return a.get(i) < b.get(i);
            }
        }
        return false;
    }

    int stay(int person, int place, int kind, int from, int to, int set) {
        if (!there(person, place)) {
            return 1;
        }
        boolean three = !in(kind, 6, 7) || !in(set, 0, 4095) || !in(from, 0, 3599) || !in(to, 0, 3599) || to < from;
        int status = least(false, false, now(person).kind(place) != 0, three, false, false, false, noRoom());
        return enterIf(status, 3, person, place, kind, from, to, set);
    }

    int quash(int person, int place, int other) {
        if (!there(person, place) || !there(person, other)) {
            return 1;
        }
        View v = now(person);
        boolean five = !in(v.kind(other), 2, 7) || v.quashedBy[other] != NONE;
        int status = least(false, false, v.kind(place) != 0, false, false, five, false, noRoom());
        return enterIf(status, 4, person, place, other);
    }

    int month(int person, int month, boolean wide, int n) {
        int status = least(false, !monthThere(person, month), false, !in(n, 0, 30), false, false, false, noRoom());
        return enterIf(status, 5, person, month, wide ? 1 : 0, n);
    }

    int held(int person, int month, int k, int v) {
        if (!monthThere(person, month)) {
            return 1;
        }
        int[] row = now(person).rows[month];
        boolean wide = now(person).wide[month];
        boolean fits = wide ? v == (short) v : v == (byte) v;
        boolean three = row != null && !fits;
        boolean six = row == null || !in(k, 0, row.length - 1);
        return enterIf(least(false, false, false, three, false, false, six, noRoom()), 6, person, month, k, v);
    }

    int tear(int person, int month) {
        int status = least(false, !monthThere(person, month), false, false, false, false, false, noRoom());
        return enterIf(status, 7, person, month);
    }

    int copy(int person, int month, int other, int to) {
        if (!monthThere(person, month) || !monthThere(other, to)) {
            return 1;
        }
        boolean six = now(person).rows[month] == null;
        return enterIf(least(false, false, false, false, false, false, six, noRoom()), 8, person, month, other, to);
    }

    int off(int person, int place, int k, int left) {
        if (!there(person, place)) {
            return 1;
        }
        boolean three = !in(k, 2, 100) || !in(left, 0, 1000);
        boolean five = !now(person).stands(place) || now(person).kind(place) == 5;
        return enterIf(least(false, false, false, three, false, five, false, noRoom()), 9, person, place, k, left);
    }

    int back(int person, int place, int days) {
        if (!there(person, place)) {
            return 1;
        }
        View v = now(person);
        boolean fits = v.stands(place) && v.kind(place) != 5;
        if (!fits) {
            return 5;
        }
        long given = (long) v.given[place] + days;
        boolean three = given < 0 || (days > 0 && given > v.course(place, false).taken[today]);
        return enterIf(least(false, false, false, three, false, false, false, noRoom()), 10, person, place, days);
    }

    private static int full(View v, boolean most) {
        int full = 0;
        for (int i = 0; i < 12; i++) {
            if (v.stands(i)) {
                int end = v.course(i, most).end;
                full = end == NEVER ? NEVER : Math.max(full, end + 1);
            }
        }
        return full;
    }

    private static int watched(View v, int thousandths, boolean most) {
        for (int day = 0; day < DAYS; day++) {
            boolean all = true;
            for (int i = 0; i < 12 && all; i++) {
                if (v.stands(i)) {
                    Course c = v.course(i, most);
                    int need = v.places[i][3];
                    int part = v.kind(i) == 5 ? need : up(need, thousandths);
                    all = c.counted[day] >= part || c.end <= day;
                }
            }
            if (all) {
                return day;
            }
        }
        return NONE;
    }

    int grant(int person, int day) {
        if (!in(person, 0, persons - 1)) {
            return 1;
        }
        if (!in(day, 0, 3599)) {
            return 3;
        }
        if (noRoom()) {
            return 7;
        }
        int watched = watched(now(person), 500, false);
        return enterIf(watched == NONE || day < watched ? 8 : 0, 11, person, day);
    }

    int recall(int person, int place, int day, int thousandths) {
        if (!there(person, place)) {
            return 1;
        }
        View v = now(person);
        boolean two = v.kind(place) != 0;
        boolean three = !in(day, 0, 3599) || !in(thousandths, 1, 1000);
        int full = full(v, false);
        boolean eight = v.grant == NONE || day <= v.grant || full == NEVER || full <= v.grant;
        int status = least(false, false, two, three, false, false, false, noRoom(), eight);
        if (status != 0) {
            return status;
        }
        int need = Math.max(1, up(full - v.grant, thousandths));
        enter(12, person, place, day, thousandths);
        log.get(log.size() - 1)[8] = need;
        return 0;
    }

    int kind(int person, int place) {
        return there(person, place) ? asked(person).kind(place) : NONE;
    }

    private Course course(int person, int place, boolean most) {
        return there(person, place) && asked(person).stands(place) ? asked(person).course(place, most) : null;
    }

    int begins(int person, int place, boolean most) {
        Course c = course(person, place, most);
        return c == null || c.begin == NEVER ? NONE : c.begin;
    }

    int ends(int person, int place, boolean most) {
        Course c = course(person, place, most);
        return c == null || c.end == NEVER ? NONE : c.end;
    }

    int counted(int person, int place, int day, boolean most) {
        Course c = course(person, place, most);
        return c == null || !in(day, 0, 3599) ? NONE : c.counted[day];
    }

    int taken(int person, int place, int day) {
        Course c = course(person, place, false);
        return c == null || !in(day, 0, 3599) ? NONE : c.taken[day];
    }

    int why(int person, int place, int day) {
        if (!there(person, place) || !in(day, 0, 3599)) {
            return NONE;
        }
        View v = asked(person);
        if (!v.runs(place)) {
            return 7;
        }
        if (v.quashedBy[place] != NONE) {
            return 6;
        }
        Course c = v.course(place, false);
        if (c.end < day) {
            return 3;
        }
        if (v.least(6, place, day) != NONE) {
            return 4;
        }
        if (v.least(7, place, day) != NONE) {
            return 1;
        }
        if (c.begin > day) {
            return 2;
        }
        return v.held(day, false) ? 0 : 5;
    }

    int by(int person, int place, int day) {
        int why = why(person, place, day);
        return switch (why) {
            case 6 -> asked(person).quashedBy[place];
            case 4 -> asked(person).least(6, place, day);
            case 1 -> asked(person).least(7, place, day);
            default -> NONE;
        };
    }

    int full(int person, boolean most) {
        if (!in(person, 0, persons - 1)) {
            return NONE;
        }
        int full = full(asked(person), most);
        return full == NEVER ? NONE : full;
    }

    int watched(int person, int thousandths, boolean most) {
        if (!in(person, 0, persons - 1) || !in(thousandths, 0, 1000)) {
            return NONE;
        }
        return watched(asked(person), thousandths, most);
    }

    int open(int person, int month) {
        return !monthThere(person, month) ? NONE : asked(person).isOpen(month) ? 1 : 0;
    }

    int over(int person) {
        if (!in(person, 0, persons - 1)) {
            return NONE;
        }
        View v = asked(person);
        int full = full(v, false);
        int over = 0;
        for (int day = 0; day <= (as == NONE ? today : as); day++) {
            int[] row = v.rows[day / 30];
            if (day >= full && row != null && row.length == 30 && row[day % 30] != 0) {
                over++;
            }
        }
        return over;
    }

    int ring(int i) {
        return in(i, 0, ring.size() - 1) ? ring.get(i) : NONE;
    }

    int check(int person, int place, int day, int bits) {
        Course c = course(person, place, false);
        if (c == null || !in(day, 0, 3599)) {
            return -2;
        }
        for (int i = 0; i < 32; i++) {
            int bit = day + i < DAYS && c.counts[day + i] ? 1 : 0;
            if ((bits >>> i) % 2 != 0 != (bit == 1)) {
                return day + i;
            }
        }
        return NONE;
    }

    int image(int i, int j) {
        return in(i, 0, log.size() - 1) && in(j, 0, 7) ? log.get(i)[j] : NONE;
    }

    int take(int day, int call, int a, int b, int c, int d, int e, int f) {
        if (!in(call, 0, 12) || !today(day)) {
            return NONE;
        }
        return switch (call) {
            case 0 -> letter(a, b);
            case 1 -> term(a, b, c, d);
            case 2 -> waits(a, b, c, d, e, f);
            case 3 -> stay(a, b, c, d, e, f);
            case 4 -> quash(a, b, c);
            case 5 -> month(a, b, c != 0, d);
            case 6 -> held(a, b, c, d);
            case 7 -> tear(a, b);
            case 8 -> copy(a, b, c, d);
            case 9 -> off(a, b, c, d);
            case 10 -> back(a, b, c);
            case 11 -> grant(a, b);
            default -> recall(a, b, c, d);
        };
    }

    int count(int what) {
        return switch (what) {
            case 0 -> today;
            case 1 -> persons;
            case 2 -> log.size();
            case 3 -> as == NONE ? today : as;
            default -> NONE;
        };
    }
}
