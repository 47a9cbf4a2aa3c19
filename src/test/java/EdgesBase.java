import java.util.function.Consumer;
import java.util.function.ToIntFunction;

/**
 * Registries as the tests of the edges need them, none of them used for more than 512 calls. The tests inherit it because
 * a class without a package can't be imported statically.
 */
abstract class EdgesBase {
    static final boolean LEAST = false;
    static final boolean MOST = true;
    static final int LOW = Integer.MIN_VALUE;
    static final int HIGH = Integer.MAX_VALUE;
    static final int NONE = TermReckoner.NONE;
    /** The bits of PLACES. */
    static final int ALL = 4095;
    static final int BEHIND = 3;
    static final int BESIDE = 4;
    static final int LIFE = 5;
    static final int STAY = 6;
    static final int CREDIT = 7;

    EdgesBase() {
    }

    static TermReckoner one() {
        return of(1);
    }

    static TermReckoner of(int persons) {
        TermReckoner x = new TermReckoner();
        for (int i = 0; i < persons; i++) {
            x.person();
        }
        return x;
    }

    /** A bit for each place. */
    static int set(int... places) {
        int set = 0;
        for (int place : places) {
            set |= 1 << place;
        }
        return set;
    }

    /** Tells of tears (of the last months of person 0) until there are so many ENTRIES. */
    static void fill(TermReckoner x, int entries) {
        for (int i = x.count(2); i < entries; i++) {
            x.tear(0, 119 - i % 60);
        }
    }

    /**
     * Tells two registries the same, asks one of them for what must be refused, and finds that it answers the status and
     * goes on as the other, which never heard of it.
     */
    static void refused(String what, int status, Consumer<TermReckoner> told, ToIntFunction<TermReckoner> call) {
        TermReckoner x = new TermReckoner();
        TermReckoner twin = new TermReckoner();
        told.accept(x);
        told.accept(twin);
        Due.same(what, call.applyAsInt(x), status);
        Due.same(what + ", then nothing changed:", answers(x), answers(twin));
    }

    /** Some hundred answers that tell what stands in a registry. */
    private static String answers(TermReckoner x) {
        StringBuilder all = new StringBuilder();
        for (int what = 0; what < 4; what++) {
            all.append(" count ").append(x.count(what));
        }
        for (int j = 0; j < 8; j++) {
            all.append(" image ").append(x.image(x.count(2) - 1, j));
        }
        for (int person = 0; person < Math.min(2, x.count(1)); person++) {
            for (int place = 0; place < 12; place++) {
                all.append(" kind ").append(x.kind(person, place)).append(" ends ").append(x.ends(person, place, LEAST));
            }
            for (int month = 0; month < 4; month++) {
                all.append(" open ").append(x.open(person, month));
            }
            all.append(" watched ").append(x.watched(person, 1000, MOST)).append(" over ").append(x.over(person));
        }
        return all.toString();
    }
}
