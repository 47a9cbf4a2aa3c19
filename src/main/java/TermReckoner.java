import java.util.Arrays;

/**
 * A registry that reckons until when a person is held, by every order that a court has made.
 * The words in capitals are those of the document (DOC.md).
 */
public final class TermReckoner {
    public static final int NONE = -1;

    private static final int DAYS = 3600;
    private static final int MONTHS = 120;
    private static final int MONTH_DAYS = 30;
    /** The days of a whole month as bits. */
    private static final int WHOLE = (1 << MONTH_DAYS) - 1;
    /** Behind every day: what never comes. */
    private static final int NEVER = 100_000;
    private static final int PERSONS = 6;
    private static final int PLACES = 12;
    private static final int SETS = 1 << PLACES;
    private static final int ENTRIES = 400;
    private static final int CHECKED_DAYS = 32;
    private static final int GRANT_PART = 500;

    // What a PLACE has.
    private static final int NOTHING = 0;
    private static final int LETTER = 1;
    private static final int TERM = 2;
    private static final int BEHIND = 3;
    private static final int BESIDE = 4;
    private static final int LIFE = 5;
    private static final int STAY = 6;
    private static final int CREDIT = 7;
    private static final int QUASH = 8;

    // What a MONTH is: as at first, a ROW of bytes or shorts, or TORN.
    private static final int PLAIN = 0;
    private static final int BYTES = 1;
    private static final int SHORTS = 2;
    private static final int TORN = 3;

    // The calls that tell something, as image() numbers them.
    private static final int CALL_LETTER = 0;
    private static final int CALL_TERM = 1;
    private static final int CALL_WAITS = 2;
    private static final int CALL_STAY = 3;
    private static final int CALL_QUASH = 4;
    private static final int CALL_MONTH = 5;
    private static final int CALL_HELD = 6;
    private static final int CALL_TEAR = 7;
    private static final int CALL_COPY = 8;
    private static final int CALL_OFF = 9;
    private static final int CALL_BACK = 10;
    private static final int CALL_GRANT = 11;
    private static final int CALL_RECALL = 12;

    // STATUS.
    private static final int TOLD = 0;
    private static final int NOT_THERE = 1;
    private static final int HAS_SOMETHING = 2;
    private static final int OUT_OF_BOUNDS = 3;
    private static final int IN_A_RING = 4;
    private static final int NOT_FIT = 5;
    private static final int NO_ROW = 6;
    private static final int NO_ROOM = 7;
    private static final int NOT_DUE = 8;

    // REASONS.
    private static final int COUNTS_AS_HELD = 0;
    private static final int COUNTS_BY_CREDIT = 1;
    private static final int NOT_BEGUN = 2;
    private static final int ENDED = 3;
    private static final int STAYED = 4;
    private static final int NOT_HELD = 5;
    private static final int IS_QUASHED = 6;
    private static final int NO_ORDER = 7;

    /** check() has no ORDER to check; NONE says there that all is right. */
    private static final int CANNOT_CHECK = -2;

    private final Entry[] log = new Entry[ENTRIES];
    private int entries = 0;
    private int persons = 0;
    private int today = 0;
    /** The day AS KNOWN on which is asked; NONE: TODAY. */
    private int asked = NONE;
    private final Registry now = new Registry();
    /** Used for days on which less was KNOWN than now. */
    private final Registry then = new Registry();
    private final Reckoning reckoning = new Reckoning();
    private final Ring found = new Ring();

    public TermReckoner() {
    }

    // ---- persons and days

    public int person() {
        if (persons >= PERSONS) {
            return NONE;
        }
        persons++;
        return persons - 1;
    }

    public boolean today(int day) {
        if (!isDay(day) || day < today) {
            return false;
        }
        today = day;
        return true;
    }

    public int as(int day) {
        if (day != NONE && (!isDay(day) || day > today)) {
            return NONE;
        }
        asked = day;
        return 1;
    }

    // ---- what is told

    public int letter(int person, int place) {
        int status = putStatus(person, place);
        if (status != TOLD) {
            return status;
        }
        return tell(new Entry(today, CALL_LETTER, person, place));
    }

    public int term(int person, int place, int from, int need) {
        int status = putStatus(person, place);
        if (status != TOLD) {
            return status;
        }
        if (!isDay(from) || !isNeed(need)) {
            return OUT_OF_BOUNDS;
        }
        Entry entry = new Entry(today, CALL_TERM, person, place);
        entry.c = from;
        entry.d = need;
        return tell(entry);
    }

    public int waits(int person, int place, int kind, int from, int need, int set) {
        int status = putStatus(person, place);
        if (status != TOLD) {
            return status;
        }
        boolean known = kind == BEHIND || kind == BESIDE || kind == LIFE;
        if (!known || !isDay(from) || !isNeed(need) || !isSet(set)) {
            return OUT_OF_BOUNDS;
        }
        if (found.closes(now.fileOf(person), place, set)) {
            return IN_A_RING;
        }
        Entry entry = new Entry(today, CALL_WAITS, person, place);
        entry.c = kind;
        entry.d = from;
        entry.e = need;
        entry.f = set;
        return tell(entry);
    }

    public int stay(int person, int place, int kind, int from, int to, int set) {
        int status = putStatus(person, place);
        if (status != TOLD) {
            return status;
        }
        boolean known = kind == STAY || kind == CREDIT;
        if (!known || !isDay(from) || !isDay(to) || to < from || !isSet(set)) {
            return OUT_OF_BOUNDS;
        }
        Entry entry = new Entry(today, CALL_STAY, person, place);
        entry.c = kind;
        entry.d = from;
        entry.e = to;
        entry.f = set;
        return tell(entry);
    }

    public int quash(int person, int place, int other) {
        Place quashed = placeOf(now, person, other);
        if (quashed == null) {
            return NOT_THERE;
        }
        int status = putStatus(person, place);
        if (status != TOLD) {
            return status;
        }
        if (quashed.kind < TERM || quashed.kind > CREDIT || quashed.isQuashed()) {
            return NOT_FIT;
        }
        Entry entry = new Entry(today, CALL_QUASH, person, place);
        entry.c = other;
        return tell(entry);
    }

    public int month(int person, int month, boolean wide, int n) {
        if (!isPerson(person) || !isMonth(month)) {
            return NOT_THERE;
        }
        if (n < 0 || n > MONTH_DAYS) {
            return OUT_OF_BOUNDS;
        }
        Entry entry = new Entry(today, CALL_MONTH, person, month);
        entry.c = wide ? 1 : 0;
        entry.d = n;
        return tell(entry);
    }

    public int held(int person, int month, int k, int v) {
        File file = fileOf(now, person);
        if (file == null || !isMonth(month)) {
            return NOT_THERE;
        }
        if (file.isRow(month) && !file.fitsRow(month, v)) {
            return OUT_OF_BOUNDS;
        }
        if (!file.isRow(month) || k < 0 || k >= file.rowLength(month)) {
            return NO_ROW;
        }
        Entry entry = new Entry(today, CALL_HELD, person, month);
        entry.c = k;
        entry.d = v;
        return tell(entry);
    }

    public int tear(int person, int month) {
        if (!isPerson(person) || !isMonth(month)) {
            return NOT_THERE;
        }
        return tell(new Entry(today, CALL_TEAR, person, month));
    }

    public int copy(int person, int month, int other, int to) {
        File file = fileOf(now, person);
        if (file == null || !isMonth(month) || !isPerson(other) || !isMonth(to)) {
            return NOT_THERE;
        }
        if (!file.isRow(month)) {
            return NO_ROW;
        }
        Entry entry = new Entry(today, CALL_COPY, person, month);
        entry.c = other;
        entry.d = to;
        return tell(entry);
    }

    public int off(int person, int place, int k, int left) {
        Place order = placeOf(now, person, place);
        if (order == null) {
            return NOT_THERE;
        }
        if (k < 2 || k > 100 || left < 0 || left > 1000) {
            return OUT_OF_BOUNDS;
        }
        if (!order.mayHaveRule()) {
            return NOT_FIT;
        }
        Entry entry = new Entry(today, CALL_OFF, person, place);
        entry.c = k;
        entry.d = left;
        return tell(entry);
    }

    public int back(int person, int place, int days) {
        File file = fileOf(now, person);
        Place order = file == null ? null : file.at(place);
        if (order == null) {
            return NOT_THERE;
        }
        // Without a fitting ORDER nothing is GIVEN or TAKEN that could be out of bounds.
        if (!order.mayHaveRule()) {
            return NOT_FIT;
        }
        reckoning.reckon(file, false);
        int mostDays = reckoning.takenUpTo(order, place, today) - order.given;
        if (days < -order.given || (days > 0 && days > mostDays)) {
            return OUT_OF_BOUNDS;
        }
        Entry entry = new Entry(today, CALL_BACK, person, place);
        entry.c = days;
        return tell(entry);
    }

    public int grant(int person, int day) {
        File file = fileOf(now, person);
        if (file == null) {
            return NOT_THERE;
        }
        if (!isDay(day)) {
            return OUT_OF_BOUNDS;
        }
        if (entries >= ENTRIES) {
            return NO_ROOM;
        }
        reckoning.reckon(file, false);
        if (day < reckoning.watchedDay(file, GRANT_PART)) {
            return NOT_DUE;
        }
        return tell(new Entry(today, CALL_GRANT, person, day));
    }

    public int recall(int person, int place, int day, int thousandths) {
        File file = fileOf(now, person);
        int status = putStatus(person, place);
        if (file == null || status != TOLD) {
            return status;
        }
        if (!isDay(day) || thousandths < 1 || thousandths > 1000) {
            return OUT_OF_BOUNDS;
        }
        if (entries >= ENTRIES) {
            return NO_ROOM;
        }
        reckoning.reckon(file, false);
        int full = reckoning.fullDay();
        if (file.granted == NONE || day <= file.granted || full == NEVER || full <= file.granted) {
            return NOT_DUE;
        }
        Entry entry = new Entry(today, CALL_RECALL, person, place);
        entry.c = day;
        entry.d = thousandths;
        entry.need = Math.max(1, part(full - file.granted, thousandths));
        return tell(entry);
    }

    // ---- what is asked

    public int kind(int person, int place) {
        Place had = placeOf(known(), person, place);
        return had == null ? NONE : had.kind;
    }

    public int begins(int person, int place, boolean most) {
        return reckonOrder(person, place, most) ? dayOrNone(reckoning.beginOf(place)) : NONE;
    }

    public int ends(int person, int place, boolean most) {
        return reckonOrder(person, place, most) ? dayOrNone(reckoning.endOf(place)) : NONE;
    }

    public int counted(int person, int place, int day, boolean most) {
        if (!isDay(day) || !reckonOrder(person, place, most)) {
            return NONE;
        }
        return reckoning.countedUpTo(place, day);
    }

    public int taken(int person, int place, int day) {
        if (!isDay(day) || !reckonOrder(person, place, false)) {
            return NONE;
        }
        return reckoning.takenUpTo(placeOf(known(), person, place), place, day);
    }

    public int why(int person, int place, int day) {
        File file = fileOf(known(), person);
        Place order = file == null ? null : file.at(place);
        if (order == null || !isDay(day)) {
            return NONE;
        }
        if (!order.runs()) {
            return NO_ORDER;
        }
        if (order.isQuashed()) {
            return IS_QUASHED;
        }
        reckoning.reckon(file, false);
        if (reckoning.endOf(place) < day) {
            return ENDED;
        }
        if (file.leastOf(STAY, place, day) != NONE) {
            return STAYED;
        }
        if (file.leastOf(CREDIT, place, day) != NONE) {
            return COUNTS_BY_CREDIT;
        }
        if (reckoning.beginOf(place) > day) {
            return NOT_BEGUN;
        }
        return file.isHeld(day, false) ? COUNTS_AS_HELD : NOT_HELD;
    }

    public int by(int person, int place, int day) {
        int reason = why(person, place, day);
        File file = fileOf(known(), person);
        Place order = file == null ? null : file.at(place);
        if (order == null) {
            return NONE;
        }
        switch (reason) {
            case IS_QUASHED:
                return order.quashedBy;
            case STAYED:
                return file.leastOf(STAY, place, day);
            case COUNTS_BY_CREDIT:
                return file.leastOf(CREDIT, place, day);
            default:
                return NONE;
        }
    }

    public int full(int person, boolean most) {
        File file = fileOf(known(), person);
        if (file == null) {
            return NONE;
        }
        reckoning.reckon(file, most);
        int full = reckoning.fullDay();
        return full == NEVER ? NONE : full;
    }

    public int watched(int person, int thousandths, boolean most) {
        File file = fileOf(known(), person);
        if (file == null || thousandths < 0 || thousandths > 1000) {
            return NONE;
        }
        reckoning.reckon(file, most);
        return dayOrNone(reckoning.watchedDay(file, thousandths));
    }

    public int open(int person, int month) {
        File file = fileOf(known(), person);
        if (file == null || !isMonth(month)) {
            return NONE;
        }
        return file.isOpen(month) ? 1 : 0;
    }

    public int over(int person) {
        File file = fileOf(known(), person);
        if (file == null) {
            return NONE;
        }
        reckoning.reckon(file, false);
        int over = 0;
        for (int day = reckoning.fullDay(); day <= dayAsked(); day++) {
            if (file.isToldHeld(day)) {
                over++;
            }
        }
        return over;
    }

    public int ring(int i) {
        return found.placeAt(i);
    }

    public int check(int person, int place, int day, int bits) {
        if (!isDay(day) || !reckonOrder(person, place, false)) {
            return CANNOT_CHECK;
        }
        for (int i = 0; i < CHECKED_DAYS; i++) {
            boolean told = (bits >>> i & 1) != 0;
            if (told != reckoning.doesCount(place, day + i)) {
                return day + i;
            }
        }
        return NONE;
    }

    public int image(int i, int j) {
        Entry entry = i >= 0 && i < entries ? log[i] : null;
        return entry == null ? NONE : entry.number(j);
    }

    public int take(int today, int call, int a, int b, int c, int d, int e, int f) {
        if (call < CALL_LETTER || call > CALL_RECALL || !today(today)) {
            return NONE;
        }
        switch (call) {
            case CALL_LETTER:
                return letter(a, b);
            case CALL_TERM:
                return term(a, b, c, d);
            case CALL_WAITS:
                return waits(a, b, c, d, e, f);
            case CALL_STAY:
                return stay(a, b, c, d, e, f);
            case CALL_QUASH:
                return quash(a, b, c);
            case CALL_MONTH:
                return month(a, b, c != 0, d);
            case CALL_HELD:
                return held(a, b, c, d);
            case CALL_TEAR:
                return tear(a, b);
            case CALL_COPY:
                return copy(a, b, c, d);
            case CALL_OFF:
                return off(a, b, c, d);
            case CALL_BACK:
                return back(a, b, c);
            case CALL_GRANT:
                return grant(a, b);
            default:
                return recall(a, b, c, d);
        }
    }

    public int count(int what) {
        switch (what) {
            case 0:
                return today;
            case 1:
                return persons;
            case 2:
                return entries;
            case 3:
                return dayAsked();
            default:
                return NONE;
        }
    }

    // ---- what the calls share

    private static boolean isDay(int day) {
        return day >= 0 && day < DAYS;
    }

    private static boolean isMonth(int month) {
        return month >= 0 && month < MONTHS;
    }

    private static boolean isPlace(int place) {
        return place >= 0 && place < PLACES;
    }

    private static boolean isNeed(int need) {
        return need >= 1 && need <= DAYS;
    }

    private static boolean isSet(int set) {
        return set >= 0 && set < SETS;
    }

    private static boolean names(int set, int place) {
        return (set >> place & 1) != 0;
    }

    /** THOUSANDTHS of n. */
    private static int part(int n, int thousandths) {
        return (n * thousandths + 999) / 1000;
    }

    private static int dayOrNone(int day) {
        return isDay(day) ? day : NONE;
    }

    /** The days of a month from its day k on, as bits. */
    private static int bitsFrom(int k) {
        if (k <= 0) {
            return WHOLE;
        }
        return k < MONTH_DAYS ? WHOLE & (WHOLE << k) : 0;
    }

    /** The days of a month up to its day k (and with it), as bits. */
    private static int bitsUpTo(int k) {
        if (k < 0) {
            return 0;
        }
        return k < MONTH_DAYS - 1 ? (1 << k + 1) - 1 : WHOLE;
    }

    private boolean isPerson(int person) {
        return person >= 0 && person < persons;
    }

    private File fileOf(Registry registry, int person) {
        return isPerson(person) ? registry.fileOf(person) : null;
    }

    private Place placeOf(Registry registry, int person, int place) {
        File file = fileOf(registry, person);
        return file == null ? null : file.at(place);
    }

    private int putStatus(int person, int place) {
        Place target = placeOf(now, person, place);
        if (target == null) {
            return NOT_THERE;
        }
        return target.kind == NOTHING ? TOLD : HAS_SOMETHING;
    }

    private int tell(Entry entry) {
        if (entries >= ENTRIES) {
            return NO_ROOM;
        }
        log[entries] = entry;
        entries++;
        now.learnUpTo(log, entries);
        return TOLD;
    }

    private int dayAsked() {
        return asked == NONE ? today : asked;
    }

    /** The files by the ENTRIES that are KNOWN on the day on which is asked. */
    private Registry known() {
        int size = entries;
        while (size > 0 && isBehind(log[size - 1], dayAsked())) {
            size--;
        }
        if (size == entries) {
            return now;
        }
        then.learnUpTo(log, size);
        return then;
    }

    private static boolean isBehind(Entry entry, int day) {
        return entry != null && entry.today > day;
    }

    /** Reckons a person's file as known, if the PLACE has an ORDER that RUNS and is not QUASHED. */
    private boolean reckonOrder(int person, int place, boolean most) {
        File file = fileOf(known(), person);
        Place order = file == null ? null : file.at(place);
        if (order == null || !order.stands()) {
            return false;
        }
        reckoning.reckon(file, most);
        return true;
    }

    /** A thing that was told: which call on which TODAY, with its arguments. */
    private static final class Entry {
        final int today;
        final int call;
        final int a;
        final int b;
        int c = 0;
        int d = 0;
        int e = 0;
        int f = 0;
        /** Of a RECALL: its NEED, reckoned by what was known when it was told. */
        int need = 0;

        Entry(int today, int call, int a, int b) {
            this.today = today;
            this.call = call;
            this.a = a;
            this.b = b;
        }

        int number(int j) {
            switch (j) {
                case 0:
                    return today;
                case 1:
                    return call;
                case 2:
                    return a;
                case 3:
                    return b;
                case 4:
                    return c;
                case 5:
                    return d;
                case 6:
                    return e;
                case 7:
                    return f;
                default:
                    return NONE;
            }
        }
    }

    /** What a PLACE has, and what has been told of it since. */
    private static final class Place {
        int kind = NOTHING;
        int from = 0;
        int to = 0;
        int need = 0;
        int set = 0;
        /** The PLACE of the QUASH of the ORDER. */
        int quashedBy = NONE;
        /** The RULE: one day in so many is TAKEN; 0 without a RULE. */
        int every = 0;
        int left = 0;
        int given = 0;

        void wipe() {
            kind = NOTHING;
            from = 0;
            to = 0;
            need = 0;
            set = 0;
            quashedBy = NONE;
            every = 0;
            left = 0;
            given = 0;
        }

        boolean runs() {
            return kind >= TERM && kind <= LIFE;
        }

        boolean isQuashed() {
            return quashedBy != NONE;
        }

        boolean stands() {
            return runs() && !isQuashed();
        }

        boolean mayHaveRule() {
            return stands() && kind != LIFE;
        }

        /** Whether this is a STAY or CREDIT (the kind says which) for the PLACE that still holds. */
        boolean isFor(int wanted, int place) {
            return kind == wanted && !isQuashed() && names(set, place);
        }

        int mostTaken() {
            return need - part(need, left);
        }
    }

    /** What is known of one person. */
    private static final class File {
        final Place[] places = new Place[PLACES];
        final int[] shapes = new int[MONTHS];
        final int[] lengths = new int[MONTHS];
        /** The days that the ROWS tell as held, as bits. */
        final int[] told = new int[MONTHS];
        int granted = NONE;

        File() {
            for (int i = 0; i < PLACES; i++) {
                places[i] = new Place();
            }
        }

        void wipe() {
            for (int i = 0; i < PLACES; i++) {
                Place place = at(i);
                if (place != null) {
                    place.wipe();
                }
            }
            Arrays.fill(shapes, PLAIN);
            Arrays.fill(lengths, 0);
            Arrays.fill(told, 0);
            granted = NONE;
        }

        Place at(int place) {
            return isPlace(place) ? places[place] : null;
        }

        boolean isRow(int month) {
            return isMonth(month) && (shapes[month] == BYTES || shapes[month] == SHORTS);
        }

        boolean fitsRow(int month, int v) {
            if (isMonth(month) && shapes[month] == SHORTS) {
                return v >= -32768 && v <= 32767;
            }
            return v >= -128 && v <= 127;
        }

        int rowLength(int month) {
            return isMonth(month) ? lengths[month] : 0;
        }

        boolean isOpen(int month) {
            if (!isMonth(month)) {
                return false;
            }
            return shapes[month] == TORN || (isRow(month) && lengths[month] < MONTH_DAYS);
        }

        /** The days of a month on which the person is held, as bits. */
        int heldDays(int month, boolean most) {
            if (isOpen(month)) {
                return most ? 0 : WHOLE;
            }
            return isRow(month) ? told[month] : WHOLE;
        }

        boolean isHeld(int day, boolean most) {
            return isDay(day) && (heldDays(day / MONTH_DAYS, most) >> day % MONTH_DAYS & 1) != 0;
        }

        boolean isToldHeld(int day) {
            int month = day / MONTH_DAYS;
            return isDay(day) && isRow(month) && !isOpen(month) && isHeld(day, false);
        }

        /** The least PLACE of a STAY or CREDIT that has the day for the ORDER. */
        int leastOf(int kind, int order, int day) {
            for (int i = 0; i < PLACES; i++) {
                Place place = at(i);
                if (place != null && place.isFor(kind, order) && place.from <= day && day <= place.to) {
                    return i;
                }
            }
            return NONE;
        }

        void setRow(int month, boolean wide, int n) {
            if (isMonth(month)) {
                shapes[month] = wide ? SHORTS : BYTES;
                lengths[month] = n;
                told[month] = bitsUpTo(n - 1);
            }
        }

        void setDay(int month, int k, boolean held) {
            if (isMonth(month) && k >= 0 && k < MONTH_DAYS) {
                told[month] = held ? told[month] | 1 << k : told[month] & ~(1 << k);
            }
        }

        void setTorn(int month) {
            if (isMonth(month)) {
                shapes[month] = TORN;
            }
        }

        void copyRow(File source, int month, int to) {
            if (isMonth(month) && isMonth(to)) {
                shapes[to] = source.shapes[month];
                lengths[to] = source.lengths[month];
                told[to] = source.told[month];
            }
        }
    }

    /** The files of all persons by the ENTRIES told so far. */
    private static final class Registry {
        final File[] files = new File[PERSONS];
        int learned = 0;

        Registry() {
            for (int i = 0; i < PERSONS; i++) {
                files[i] = new File();
            }
        }

        File fileOf(int person) {
            return person >= 0 && person < PERSONS ? files[person] : null;
        }

        /** Afterwards it knows just the first ENTRIES of the log, so many as size says. */
        void learnUpTo(Entry[] log, int size) {
            if (learned > size) {
                wipe();
            }
            for (int i = learned; i < size && i < log.length; i++) {
                if (log[i] != null) {
                    learn(log[i]);
                }
            }
            learned = size;
        }

        private void wipe() {
            for (int i = 0; i < PERSONS; i++) {
                File file = fileOf(i);
                if (file != null) {
                    file.wipe();
                }
            }
            learned = 0;
        }

        private void learn(Entry entry) {
            File file = fileOf(entry.a);
            if (file == null) {
                return;
            }
            switch (entry.call) {
                case CALL_MONTH:
                    file.setRow(entry.b, entry.c != 0, entry.d);
                    break;
                case CALL_HELD:
                    file.setDay(entry.b, entry.c, entry.d != 0);
                    break;
                case CALL_TEAR:
                    file.setTorn(entry.b);
                    break;
                case CALL_COPY:
                    File target = fileOf(entry.c);
                    if (target != null) {
                        target.copyRow(file, entry.b, entry.d);
                    }
                    break;
                case CALL_GRANT:
                    file.granted = entry.b;
                    break;
                default:
                    learnOfPlace(file, entry);
            }
        }

        private void learnOfPlace(File file, Entry entry) {
            Place place = file.at(entry.b);
            if (place == null) {
                return;
            }
            switch (entry.call) {
                case CALL_LETTER:
                    place.kind = LETTER;
                    break;
                case CALL_TERM:
                    putTerm(place, entry.c, entry.d);
                    break;
                case CALL_RECALL:
                    putTerm(place, entry.c, entry.need);
                    break;
                case CALL_WAITS:
                    place.kind = entry.c;
                    place.from = entry.d;
                    place.need = entry.e;
                    place.set = entry.f;
                    break;
                case CALL_STAY:
                    place.kind = entry.c;
                    place.from = entry.d;
                    place.to = entry.e;
                    place.set = entry.f;
                    break;
                case CALL_QUASH:
                    place.kind = QUASH;
                    markQuashed(file.at(entry.c), entry.b);
                    break;
                case CALL_OFF:
                    place.every = entry.c;
                    place.left = entry.d;
                    break;
                case CALL_BACK:
                    place.given += entry.c;
                    break;
                default:
                    break;
            }
        }

        private static void putTerm(Place place, int from, int need) {
            place.kind = TERM;
            place.from = from;
            place.need = need;
        }

        private static void markQuashed(Place place, int quash) {
            if (place != null) {
                place.quashedBy = quash;
            }
        }
    }

    /** Goes along the days of an ORDER: how many have COUNTED, and how many are TAKEN for its rows. */
    private static final class Tally {
        int every = 0;
        int mostTaken = 0;
        int given = 0;
        int counted = 0;
        /** TAKEN of the rows that are broken off. */
        int closed = 0;
        /** How long the row is that goes on. */
        int row = 0;

        void start(Place order) {
            every = order.every;
            mostTaken = order.mostTaken();
            given = order.given;
            counted = 0;
            closed = 0;
            row = 0;
        }

        /** TAKEN, if the row that goes on were longer by so many days. */
        int takenWith(int days) {
            return every > 0 ? Math.min(mostTaken, closed + (row + days) / every) : 0;
        }

        /** What has COUNTED and is OFF together, when so many days more COUNT without a break. */
        int reachedWith(int days) {
            return counted + days + Math.max(0, takenWith(days) - given);
        }

        void addDays(int days) {
            counted += days;
            row += days;
        }

        void breakRow() {
            if (every > 0) {
                closed += row / every;
            }
            row = 0;
        }

        /** Goes on by a month of which the bits COUNT, or up to its day on which need is reached: that day, else NONE. */
        int addMonth(int bits, int need) {
            if (bits == 0) {
                breakRow();
                return NONE;
            }
            if (bits == WHOLE && reachedWith(MONTH_DAYS) < need) {
                addDays(MONTH_DAYS);
                return NONE;
            }
            for (int k = 0; k < MONTH_DAYS; k++) {
                if ((bits >> k & 1) == 0) {
                    breakRow();
                } else {
                    addDays(1);
                }
                if (reachedWith(0) >= need) {
                    return k;
                }
            }
            return NONE;
        }
    }

    /** What follows from one person's file: BEGIN, END and the days that COUNT of each ORDER that stands. */
    private static final class Reckoning {
        final int[] beginDays = new int[PLACES];
        final int[] endDays = new int[PLACES];
        /** The days that COUNT as bits, a number for each month of each PLACE. */
        final int[] counting = new int[PLACES * MONTHS];
        final int[] stayed = new int[MONTHS];
        final int[] credited = new int[MONTHS];
        final Tally tally = new Tally();
        /** The ORDERS that RUN and are not QUASHED, as bits. */
        int standing = 0;

        int beginOf(int place) {
            return isPlace(place) ? beginDays[place] : NEVER;
        }

        int endOf(int place) {
            return isPlace(place) ? endDays[place] : NEVER;
        }

        void reckon(File file, boolean most) {
            standing = 0;
            for (int i = 0; i < PLACES; i++) {
                beginDays[i] = NEVER;
                endDays[i] = NEVER;
                Place place = file.at(i);
                if (place != null && place.stands()) {
                    standing |= 1 << i;
                }
            }
            int left = standing;
            // There are no RINGS: each round reckons at least one ORDER.
            for (int round = 0; round < PLACES && left != 0; round++) {
                for (int i = 0; i < PLACES; i++) {
                    Place order = file.at(i);
                    if (order != null && names(left, i) && (order.set & left) == 0) {
                        reckonPlace(file, order, i, most);
                        left &= ~(1 << i);
                    }
                }
            }
        }

        private void reckonPlace(File file, Place order, int place, boolean most) {
            int begin = order.kind == BESIDE ? beginBeside(order) : beginBehind(order);
            if (begin >= DAYS) {
                begin = NEVER;
            }
            findSpans(file, STAY, place, stayed);
            findSpans(file, CREDIT, place, credited);
            tally.start(order);
            int need = order.kind == LIFE ? NEVER : order.need;
            int end = NEVER;
            for (int month = 0; month < MONTHS; month++) {
                int first = month * MONTH_DAYS;
                int bits = (credited[month] | (file.heldDays(month, most) & bitsFrom(begin - first))) & ~stayed[month];
                if (end != NEVER) {
                    bits = 0;
                } else {
                    int k = tally.addMonth(bits, need);
                    if (k != NONE) {
                        end = first + k;
                        bits &= bitsUpTo(k);
                    }
                }
                counting[place * MONTHS + month] = bits;
            }
            beginDays[place] = begin;
            endDays[place] = end;
        }

        /** BEGIN of a BEHIND or LIFE, and of a TERM, which has no SET. */
        private int beginBehind(Place order) {
            int begin = order.from;
            for (int i = 0; i < PLACES; i++) {
                if (names(order.set & standing, i)) {
                    begin = Math.max(begin, endDays[i] + 1);
                }
            }
            return begin;
        }

        private int beginBeside(Place order) {
            int set = order.set & standing;
            if (set == 0) {
                return order.from;
            }
            int least = NEVER;
            for (int i = 0; i < PLACES; i++) {
                if (names(set, i)) {
                    least = Math.min(least, beginDays[i]);
                }
            }
            return Math.max(order.from, least);
        }

        /** The days that the STAYS or CREDITS of a file have for a PLACE, as bits of each month. */
        private static void findSpans(File file, int kind, int place, int[] months) {
            Arrays.fill(months, 0);
            for (int i = 0; i < PLACES; i++) {
                Place span = file.at(i);
                if (span != null && span.isFor(kind, place)) {
                    addSpan(span, months);
                }
            }
        }

        private static void addSpan(Place span, int[] months) {
            int last = Math.min(span.to / MONTH_DAYS, months.length - 1);
            for (int month = Math.max(0, span.from / MONTH_DAYS); month <= last; month++) {
                int first = month * MONTH_DAYS;
                months[month] |= bitsFrom(span.from - first) & bitsUpTo(span.to - first);
            }
        }

        /** The days of a month that COUNT for an ORDER that stands. */
        private int countingIn(int place, int month) {
            boolean known = isPlace(place) && names(standing, place) && isMonth(month);
            return known ? counting[place * MONTHS + month] : 0;
        }

        boolean doesCount(int place, int day) {
            return isDay(day) && (countingIn(place, day / MONTH_DAYS) >> day % MONTH_DAYS & 1) != 0;
        }

        int countedUpTo(int place, int day) {
            int counted = 0;
            for (int month = 0; month < MONTHS; month++) {
                int bits = countingIn(place, month) & bitsUpTo(day - month * MONTH_DAYS);
                counted += Integer.bitCount(bits);
            }
            return counted;
        }

        int takenUpTo(Place order, int place, int day) {
            if (order == null) {
                return 0;
            }
            tally.start(order);
            for (int month = 0; month < MONTHS; month++) {
                int bits = countingIn(place, month) & bitsUpTo(day - month * MONTH_DAYS);
                tally.addMonth(bits, NEVER);
            }
            return tally.takenWith(0);
        }

        /** FULL, or NEVER. */
        int fullDay() {
            int full = 0;
            for (int i = 0; i < PLACES; i++) {
                if (names(standing, i)) {
                    full = Math.max(full, endDays[i] + 1);
                }
            }
            return full <= DAYS ? full : NEVER;
        }

        /** WATCHED by so many thousandths, or NEVER. */
        int watchedDay(File file, int thousandths) {
            int watched = 0;
            for (int i = 0; i < PLACES; i++) {
                Place order = file.at(i);
                if (order != null && names(standing, i)) {
                    int wanted = order.kind == LIFE ? order.need : part(order.need, thousandths);
                    watched = Math.max(watched, Math.min(dayOfCount(i, wanted), endDays[i]));
                }
            }
            return watched;
        }

        /** The first day by which so many days have COUNTED, or NEVER. */
        private int dayOfCount(int place, int wanted) {
            int left = wanted;
            if (left <= 0) {
                return 0;
            }
            for (int month = 0; month < MONTHS; month++) {
                int bits = countingIn(place, month);
                int days = Integer.bitCount(bits);
                if (days >= left) {
                    return month * MONTH_DAYS + dayOfBit(bits, left);
                }
                left -= days;
            }
            return NEVER;
        }

        /** Which day of a month its n-th bit is (the first 1). */
        private static int dayOfBit(int bits, int n) {
            int seen = 0;
            for (int k = 0; k < MONTH_DAYS; k++) {
                seen += bits >> k & 1;
                if (seen == n) {
                    return k;
                }
            }
            return MONTH_DAYS;
        }
    }

    /** The RING of the latest call that was refused for one. */
    private static final class Ring {
        final int[] places = new int[PLACES];
        int size = 0;
        /** For each PLACE those that its ORDER names, if that RUNS. */
        private final int[] next = new int[PLACES];
        /** The PLACES from which so many steps can lead to the first one. */
        private final int[] leads = new int[PLACES + 1];

        int placeAt(int i) {
            return i >= 0 && i < size && i < PLACES ? places[i] : NONE;
        }

        /** Whether an ORDER with that SET in the PLACE would close a RING; if so, it is kept. */
        boolean closes(File file, int place, int set) {
            if (file == null || !isPlace(place)) {
                return false;
            }
            findNext(file, place, set);
            int length = lengthOfLeast(place);
            if (length == 0) {
                return false;
            }
            for (int first = 0; first < PLACES; first++) {
                findLeads(first, length);
                if (names(leads[length], first)) {
                    keep(first, length);
                    return true;
                }
            }
            return false;
        }

        /** What names a PLACE without such an ORDER needs no care: from there no step leads on. */
        private void findNext(File file, int place, int set) {
            for (int i = 0; i < PLACES; i++) {
                Place order = file.at(i);
                next[i] = order != null && order.runs() ? order.set : 0;
            }
            next[place] = set;
        }

        /** All RINGS lead through the new ORDER: the steps of the shortest way back to it; 0 without one. */
        private int lengthOfLeast(int place) {
            int reached = 1 << place;
            for (int length = 1; length <= PLACES; length++) {
                int after = 0;
                for (int i = 0; i < PLACES; i++) {
                    if (names(reached, i)) {
                        after |= next[i];
                    }
                }
                if (names(after, place)) {
                    return length;
                }
                reached = after;
            }
            return 0;
        }

        private void findLeads(int first, int length) {
            leads[0] = 1 << first;
            for (int steps = 1; steps <= length && steps <= PLACES; steps++) {
                leads[steps] = 0;
                for (int i = 0; i < PLACES; i++) {
                    if ((next[i] & leads[steps - 1]) != 0) {
                        leads[steps] |= 1 << i;
                    }
                }
            }
        }

        /** A way of the least length back to its first PLACE visits none twice: no shorter RING is there. */
        private void keep(int first, int length) {
            int place = first;
            size = 0;
            for (int steps = length - 1; steps >= 0 && steps < PLACES && isPlace(place); steps--) {
                places[size] = place;
                size++;
                place = Integer.numberOfTrailingZeros(next[place] & leads[steps]);
            }
        }
    }
}
