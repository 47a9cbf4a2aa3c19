/** Promises 1 to 17: a new object, persons, days, and all calls that tell something, with each STATUS. */
public final class TellingTest {
    private static final int LOW = Integer.MIN_VALUE;
    private static final int HIGH = Integer.MAX_VALUE;

    private TellingTest() {
    }

    public static void main(String[] args) {
        promise1NewObject();
        promise2Person();
        promise3Today();
        promise4As();
        promise5Letter();
        promise6Term();
        promise7Waits();
        promise7Rings();
        promise8Stay();
        promise9Quash();
        promise10Month();
        promise11Held();
        promise12Tear();
        promise13Copy();
        promise14Off();
        promise15Back();
        promise15BackUpToToday();
        promise16Grant();
        promise17Recall();
        fullLog();
        leastStatus();
        Due.close("TellingTest");
    }

    private static TermReckoner one() {
        TermReckoner x = new TermReckoner();
        x.person();
        return x;
    }

    private static void promise1NewObject() {
        TermReckoner x = new TermReckoner();
        Due.same("NONE", TermReckoner.NONE, -1);
        for (int what = 0; what < 4; what++) {
            Due.same("1: count " + what + " of a new object", x.count(what), 0);
        }
        Due.same("1: kind without persons", x.kind(0, 0), -1);
        Due.same("1: letter without persons", x.letter(0, 0), 1);
        Due.same("1: full without persons", x.full(0, false), -1);
        Due.same("1: image", x.image(0, 0), -1);
        Due.same("1: ring", x.ring(0), -1);
    }

    private static void promise2Person() {
        TermReckoner x = new TermReckoner();
        for (int i = 0; i < 6; i++) {
            Due.same("2: person", x.person(), i);
        }
        Due.same("2: a seventh person", x.person(), -1);
        Due.same("2: persons", x.count(1), 6);
        Due.same("2: persons are no entries", x.count(2), 0);
        Due.same("2: the sixth has a file", x.kind(5, 11), 0);
        Due.same("2: there is no seventh", x.kind(6, 0), -1);
    }

    private static void promise3Today() {
        TermReckoner x = one();
        Due.same("3: today -1", x.today(-1), false);
        Due.same("3: today 0 again", x.today(0), true);
        Due.same("3: today 10", x.today(10), true);
        Due.same("3: today 10 again", x.today(10), true);
        Due.same("3: today 9", x.today(9), false);
        Due.same("3: today is still 10", x.count(0), 10);
        Due.same("3: today 3600", x.today(3600), false);
        Due.same("3: today LOW", x.today(LOW), false);
        Due.same("3: today HIGH", x.today(HIGH), false);
        Due.same("3: today 3599", x.today(3599), true);
        Due.same("3: today is 3599", x.count(0), 3599);
    }

    private static void promise4As() {
        TermReckoner x = one();
        x.today(5);
        x.term(0, 0, 0, 10);
        x.today(9);
        Due.same("4: as ahead of the entry", x.as(4), 1);
        Due.same("4: nothing is known then", x.kind(0, 0), 0);
        Due.same("4: told is what is there now", x.letter(0, 0), 2);
        Due.same("4: as on its day", x.as(5), 1);
        Due.same("4: the day of the entry knows it", x.kind(0, 0), 2);
        Due.same("4: as behind TODAY", x.as(10), -1);
        Due.same("4: as -2", x.as(-2), -1);
        Due.same("4: nothing changed", x.count(3), 5);
        Due.same("4: as on TODAY", x.as(9), 1);
        x.today(12);
        Due.same("4: a day that is set stays", x.count(3), 9);
        Due.same("4: as NONE", x.as(-1), 1);
        Due.same("4: TODAY again", x.count(3), 12);
        x.today(20);
        Due.same("4: also as that goes on", x.count(3), 20);
        Due.same("4: as is no entry", x.count(2), 1);
        x.as(20);
        x.letter(0, 1);
        Due.same("4: what was told on the day itself is known", x.kind(0, 1), 1);
        x.as(0);
        Due.same("4: day 0", x.kind(0, 0), 0);
        x.as(9);
        Due.same("4: further on again", x.kind(0, 0), 2);
        Due.same("4: not yet the letter", x.kind(0, 1), 0);
    }

    private static void promise5Letter() {
        TermReckoner x = one();
        Due.same("5: no such person", x.letter(1, 0), 1);
        Due.same("5: person -1", x.letter(-1, 0), 1);
        Due.same("5: place -1", x.letter(0, -1), 1);
        Due.same("5: place 12", x.letter(0, 12), 1);
        Due.same("5: place HIGH", x.letter(0, HIGH), 1);
        Due.same("5: a letter", x.letter(0, 11), 0);
        Due.same("5: it is an entry", x.count(2), 1);
        Due.same("5: the place has something", x.letter(0, 11), 2);
        Due.same("5: that was no entry", x.count(2), 1);
        Due.same("5: kind", x.kind(0, 11), 1);
    }

    private static void promise6Term() {
        TermReckoner x = one();
        Due.same("6: no such person", x.term(1, 0, 0, 1), 1);
        Due.same("6: no such place", x.term(0, 12, -1, 0), 1);
        Due.same("6: from -1", x.term(0, 0, -1, 1), 3);
        Due.same("6: from 3600", x.term(0, 0, 3600, 1), 3);
        Due.same("6: need 0", x.term(0, 0, 0, 0), 3);
        Due.same("6: need 3601", x.term(0, 0, 0, 3601), 3);
        Due.same("6: need LOW", x.term(0, 0, 0, LOW), 3);
        Due.same("6: the least", x.term(0, 0, 0, 1), 0);
        Due.same("6: the most", x.term(0, 1, 3599, 3600), 0);
        Due.same("6: the place has something", x.term(0, 0, -1, 0), 2);
        Due.same("6: kind", x.kind(0, 0), 2);
        Due.same("6: it ends on its only day", x.ends(0, 0, false), 0);
        Due.same("6: the other never ends", x.ends(0, 1, false), -1);
    }

    private static void promise7Waits() {
        TermReckoner x = one();
        Due.same("7: no such person", x.waits(-1, 0, 3, 0, 1, 0), 1);
        Due.same("7: no such place", x.waits(0, -1, 3, 0, 1, 0), 1);
        Due.same("7: kind 2", x.waits(0, 0, 2, 0, 1, 0), 3);
        Due.same("7: kind 6", x.waits(0, 0, 6, 0, 1, 0), 3);
        Due.same("7: from -1", x.waits(0, 0, 3, -1, 1, 0), 3);
        Due.same("7: from 3600", x.waits(0, 0, 4, 3600, 1, 0), 3);
        Due.same("7: need 0", x.waits(0, 0, 5, 0, 0, 0), 3);
        Due.same("7: need 3601", x.waits(0, 0, 5, 0, 3601, 0), 3);
        Due.same("7: set -1", x.waits(0, 0, 3, 0, 1, -1), 3);
        Due.same("7: set 4096", x.waits(0, 0, 3, 0, 1, 4096), 3);
        Due.same("7: out of bounds goes ahead of a ring", x.waits(0, 0, 3, 0, 0, 1), 3);
        Due.same("7: that was no ring", x.ring(0), -1);
        Due.same("7: a behind", x.waits(0, 0, 3, 0, 1, 0), 0);
        Due.same("7: a beside", x.waits(0, 1, 4, 3599, 3600, 4095 - 2), 0);
        Due.same("7: a life", x.waits(0, 2, 5, 5, 7, 1), 0);
        Due.same("7: the place has something", x.waits(0, 2, 9, 5, 7, 1), 2);
        Due.same("7: kind 3", x.kind(0, 0), 3);
        Due.same("7: kind 4", x.kind(0, 1), 4);
        Due.same("7: kind 5", x.kind(0, 2), 5);
    }

    private static void promise7Rings() {
        TermReckoner x = one();
        Due.same("7: one that names itself", x.waits(0, 4, 3, 0, 1, 16), 4);
        Due.same("7: it is not there", x.kind(0, 4), 0);
        Due.same("7: no entry", x.count(2), 0);
        Due.same("7: 0 behind 1, which is not there yet", x.waits(0, 0, 3, 0, 1, 2), 0);
        Due.same("7: 1 with 2, not there yet", x.waits(0, 1, 4, 0, 1, 4), 0);
        Due.same("7: 2 behind 0", x.waits(0, 2, 5, 0, 1, 1), 4);
        x.letter(0, 3);
        x.quash(0, 5, 1);
        Due.same("7: also with a quashed one", x.waits(0, 2, 5, 0, 1, 1), 4);
        Due.same("7: a letter, a quash and nothing are in no ring", x.waits(0, 2, 5, 0, 1, 4095 - 7), 0);
        TermReckoner y = one();
        y.waits(0, 0, 3, 0, 1, 2);
        y.stay(0, 2, 6, 0, 9, 1);
        y.waits(0, 3, 3, 0, 1, 1);
        Due.same("7: through a stay goes no ring", y.waits(0, 1, 3, 0, 1, 4), 0);
        y.person();
        Due.same("7: another person's orders are others", y.waits(1, 4, 3, 0, 1, 1), 0);
        Due.same("7: nor do they close a ring", y.waits(1, 1, 3, 0, 1, 1), 0);
        Due.same("7: nor does a term name any", y.term(0, 4, 0, 1), 0);
        Due.same("7: a chain is no ring", y.waits(0, 5, 3, 0, 1, 8 + 16), 0);
    }

    private static void promise8Stay() {
        TermReckoner x = one();
        Due.same("8: no such person", x.stay(1, 0, 6, 0, 0, 0), 1);
        Due.same("8: no such place", x.stay(0, 12, 6, 0, 0, 0), 1);
        Due.same("8: kind 5", x.stay(0, 0, 5, 0, 0, 0), 3);
        Due.same("8: kind 8", x.stay(0, 0, 8, 0, 0, 0), 3);
        Due.same("8: set -1", x.stay(0, 0, 6, 0, 0, -1), 3);
        Due.same("8: set 4096", x.stay(0, 0, 6, 0, 0, 4096), 3);
        Due.same("8: from -1", x.stay(0, 0, 6, -1, 0, 0), 3);
        Due.same("8: to 3600", x.stay(0, 0, 6, 0, 3600, 0), 3);
        Due.same("8: from and to 3600", x.stay(0, 0, 7, 3600, 3600, 0), 3);
        Due.same("8: to ahead of from", x.stay(0, 0, 7, 5, 4, 0), 3);
        Due.same("8: a stay of a day", x.stay(0, 0, 6, 5, 5, 4095), 0);
        Due.same("8: a credit of all days", x.stay(0, 1, 7, 0, 3599, 0), 0);
        Due.same("8: the place has something", x.stay(0, 0, 9, 5, 4, 4096), 2);
        Due.same("8: kind 6", x.kind(0, 0), 6);
        Due.same("8: kind 7", x.kind(0, 1), 7);
    }

    private static void promise9Quash() {
        TermReckoner x = one();
        x.term(0, 0, 0, 10);
        x.letter(0, 1);
        x.stay(0, 2, 6, 0, 3, 1);
        x.stay(0, 3, 7, 0, 3, 1);
        Due.same("9: no such person", x.quash(1, 4, 0), 1);
        Due.same("9: no such place", x.quash(0, 12, 0), 1);
        Due.same("9: no such other one", x.quash(0, 4, 12), 1);
        Due.same("9: no other one goes ahead of a place that has something", x.quash(0, 0, -1), 1);
        Due.same("9: the place has something", x.quash(0, 1, 0), 2);
        Due.same("9: of nothing", x.quash(0, 4, 5), 5);
        Due.same("9: of its own place", x.quash(0, 4, 4), 5);
        Due.same("9: of a letter", x.quash(0, 4, 1), 5);
        Due.same("9: of a term", x.quash(0, 4, 0), 0);
        Due.same("9: of a quash", x.quash(0, 5, 4), 5);
        Due.same("9: of a quashed one", x.quash(0, 5, 0), 5);
        Due.same("9: of a stay", x.quash(0, 5, 2), 0);
        Due.same("9: of a credit", x.quash(0, 6, 3), 0);
        Due.same("9: of a quashed stay", x.quash(0, 7, 2), 5);
        Due.same("9: kind", x.kind(0, 4), 8);
        Due.same("9: a quashed order's place stays its own", x.kind(0, 0), 2);
        Due.same("9: nothing else comes into it", x.letter(0, 0), 2);
    }

    private static void promise10Month() {
        TermReckoner x = one();
        x.term(0, 0, 0, 3600);
        Due.same("10: no such person", x.month(1, 0, false, 30), 1);
        Due.same("10: month -1", x.month(0, -1, false, 30), 1);
        Due.same("10: month 120", x.month(0, 120, true, 99), 1);
        Due.same("10: n -1", x.month(0, 0, false, -1), 3);
        Due.same("10: n 31", x.month(0, 0, true, 31), 3);
        Due.same("10: a whole row", x.month(0, 0, false, 30), 0);
        Due.same("10: all held", x.counted(0, 0, 29, true), 30);
        Due.same("10: it is not open", x.open(0, 0), 0);
        Due.same("10: a row of none", x.month(0, 119, true, 0), 0);
        Due.same("10: it is open", x.open(0, 119), 1);
        Due.same("10: none of it is held at most", x.counted(0, 0, 3599, true), 3570);
        x.held(0, 0, 3, 0);
        Due.same("10: a day not held", x.counted(0, 0, 29, false), 29);
        x.month(0, 0, true, 30);
        Due.same("10: told anew all are held", x.counted(0, 0, 29, false), 30);
    }

    private static void promise11Held() {
        TermReckoner x = one();
        x.term(0, 0, 0, 3600);
        Due.same("11: no such person", x.held(1, 0, 0, 0), 1);
        Due.same("11: no such month", x.held(0, 120, 0, 0), 1);
        Due.same("11: a plain month", x.held(0, 0, 0, 0), 6);
        Due.same("11: of a plain month no number is too large", x.held(0, 0, 0, 99999), 6);
        x.month(0, 0, false, 20);
        Due.same("11: v 128", x.held(0, 0, 0, 128), 3);
        Due.same("11: v -129", x.held(0, 0, 0, -129), 3);
        Due.same("11: v 128 goes ahead of no such day", x.held(0, 0, 20, 128), 3);
        Due.same("11: k 20", x.held(0, 0, 20, 0), 6);
        Due.same("11: k -1", x.held(0, 0, -1, 0), 6);
        Due.same("11: v 127", x.held(0, 0, 0, 127), 0);
        Due.same("11: v -128", x.held(0, 0, 19, -128), 0);
        x.month(0, 1, true, 30);
        Due.same("11: wide v 32768", x.held(0, 1, 0, 32768), 3);
        Due.same("11: wide v -32769", x.held(0, 1, 0, -32769), 3);
        Due.same("11: wide v 32767", x.held(0, 1, 0, 32767), 0);
        Due.same("11: wide v -32768", x.held(0, 1, 1, -32768), 0);
        Due.same("11: wide v 256", x.held(0, 1, 2, 256), 0);
        Due.same("11: all three are held", x.counted(0, 0, 32, false), 33);
        Due.same("11: not held", x.held(0, 1, 29, 0), 0);
        Due.same("11: day 59 does not count", x.why(0, 0, 59), 5);
        Due.same("11: day 58 does", x.why(0, 0, 58), 0);
        Due.same("11: held again", x.held(0, 1, 29, -1), 0);
        Due.same("11: day 59 counts", x.why(0, 0, 59), 0);
        x.tear(0, 1);
        Due.same("11: a torn month", x.held(0, 1, 0, 0), 6);
        x.month(0, 2, false, 0);
        Due.same("11: a row of none", x.held(0, 2, 0, 1), 6);
    }

    private static void promise12Tear() {
        TermReckoner x = one();
        x.term(0, 0, 0, 40);
        Due.same("12: no such person", x.tear(-1, 0), 1);
        Due.same("12: no such month", x.tear(0, 120), 1);
        Due.same("12: a plain month", x.tear(0, 0), 0);
        Due.same("12: it is open", x.open(0, 0), 1);
        Due.same("12: least", x.ends(0, 0, false), 39);
        Due.same("12: most", x.ends(0, 0, true), 69);
        Due.same("12: again", x.tear(0, 0), 0);
        Due.same("12: a row again", x.month(0, 0, false, 30), 0);
        Due.same("12: it is not open any more", x.open(0, 0), 0);
        x.held(0, 0, 4, 0);
        x.tear(0, 0);
        Due.same("12: a torn row is held at least", x.why(0, 0, 4), 0);
    }

    private static void promise13Copy() {
        TermReckoner x = one();
        x.person();
        x.term(0, 0, 0, 3600);
        x.term(1, 0, 0, 3600);
        Due.same("13: no such person", x.copy(2, 0, 0, 0), 1);
        Due.same("13: no such month", x.copy(0, -1, 0, 0), 1);
        Due.same("13: no such other one", x.copy(0, 0, 2, 0), 1);
        Due.same("13: no such month of it", x.copy(0, 0, 1, 120), 1);
        Due.same("13: a plain month", x.copy(0, 0, 1, 0), 6);
        x.tear(0, 1);
        Due.same("13: a torn month", x.copy(0, 1, 1, 0), 6);
        x.month(0, 0, true, 30);
        x.held(0, 0, 7, 0);
        Due.same("13: a row", x.copy(0, 0, 1, 2), 0);
        Due.same("13: its day not held", x.why(1, 0, 67), 5);
        Due.same("13: its day held", x.why(1, 0, 68), 0);
        x.held(0, 0, 8, 0);
        Due.same("13: as it was then", x.why(1, 0, 68), 0);
        Due.same("13: it is wide", x.held(1, 2, 9, 300), 0);
        x.held(1, 2, 9, 0);
        Due.same("13: of its own", x.why(0, 0, 9), 0);
        Due.same("13: onto a torn month", x.copy(0, 0, 0, 1), 0);
        Due.same("13: that is no more torn", x.open(0, 1), 0);
        Due.same("13: and has its days", x.why(0, 0, 38), 5);
        x.month(0, 3, false, 12);
        Due.same("13: a short row", x.copy(0, 3, 1, 2), 0);
        Due.same("13: is short there too", x.open(1, 2), 1);
        Due.same("13: and not wide", x.held(1, 2, 9, 300), 3);
        Due.same("13: onto itself", x.copy(0, 0, 0, 0), 0);
        Due.same("13: nothing changes so", x.why(0, 0, 8), 5);
    }

    private static void promise14Off() {
        TermReckoner x = one();
        x.term(0, 0, 0, 100);
        x.waits(0, 1, 5, 0, 10, 0);
        x.letter(0, 2);
        x.stay(0, 3, 6, 3000, 3000, 0);
        x.term(0, 4, 0, 10);
        x.quash(0, 5, 4);
        x.waits(0, 6, 3, 0, 10, 0);
        x.waits(0, 7, 4, 0, 10, 0);
        Due.same("14: no such person", x.off(1, 0, 2, 0), 1);
        Due.same("14: no such place", x.off(0, 12, 2, 0), 1);
        Due.same("14: k 1", x.off(0, 0, 1, 0), 3);
        Due.same("14: k 101", x.off(0, 0, 101, 0), 3);
        Due.same("14: left -1", x.off(0, 0, 2, -1), 3);
        Due.same("14: left 1001", x.off(0, 0, 2, 1001), 3);
        Due.same("14: out of bounds goes ahead of no such order", x.off(0, 2, 0, 0), 3);
        Due.same("14: a life", x.off(0, 1, 2, 0), 5);
        Due.same("14: a letter", x.off(0, 2, 2, 0), 5);
        Due.same("14: a stay", x.off(0, 3, 2, 0), 5);
        Due.same("14: a quashed one", x.off(0, 4, 2, 0), 5);
        Due.same("14: a quash", x.off(0, 5, 2, 0), 5);
        Due.same("14: nothing", x.off(0, 11, 2, 0), 5);
        Due.same("14: a behind", x.off(0, 6, 2, 0), 0);
        Due.same("14: a beside", x.off(0, 7, 100, 1000), 0);
        Due.same("14: a term", x.off(0, 0, 4, 0), 0);
        // d + d / 4 >= 100 first where d is 80.
        Due.same("14: one in four", x.ends(0, 0, false), 79);
        Due.same("14: leave nine in ten", x.off(0, 0, 4, 900), 0);
        Due.same("14: ten are taken at most", x.ends(0, 0, false), 89);
        Due.same("14: the latest counts for all days", x.off(0, 0, 100, 0), 0);
        Due.same("14: 99 days and none taken yet", x.ends(0, 0, false), 99);
    }

    private static void promise15Back() {
        TermReckoner x = one();
        x.term(0, 0, 0, 100);
        x.waits(0, 1, 5, 0, 10, 0);
        x.off(0, 0, 4, 0);
        x.today(40);
        Due.same("15: no such person", x.back(1, 0, 0), 1);
        Due.same("15: no such place", x.back(0, -1, 0), 1);
        Due.same("15: a life", x.back(0, 1, 0), 5);
        Due.same("15: nothing", x.back(0, 2, 0), 5);
        Due.same("15: below 0", x.back(0, 0, -1), 3);
        Due.same("15: LOW", x.back(0, 0, LOW), 3);
        // Days 0 to 40 are 41: 10 are taken.
        Due.same("15: above what is taken", x.back(0, 0, 11), 3);
        Due.same("15: HIGH", x.back(0, 0, HIGH), 3);
        Due.same("15: none", x.back(0, 0, 0), 0);
        Due.same("15: six", x.back(0, 0, 6), 0);
        Due.same("15: five more", x.back(0, 0, 5), 3);
        Due.same("15: four more", x.back(0, 0, 4), 0);
        // d + d / 4 - 10 >= 100 first where d is 88.
        Due.same("15: it ends later", x.ends(0, 0, false), 87);
        Due.same("15: taken is as ever", x.taken(0, 0, 40), 10);
        Due.same("15: taken anew", x.back(0, 0, -3), 0);
        // d + d / 4 - 7 >= 100: where d is 86, d / 4 is 21.
        Due.same("15: it ends less late", x.ends(0, 0, false), 85);
        Due.same("15: not more than there was", x.back(0, 0, -8), 3);
        Due.same("15: all anew", x.back(0, 0, -7), 0);
        Due.same("15: as at first", x.ends(0, 0, false), 79);
        x.quash(0, 2, 0);
        Due.same("15: a quashed one", x.back(0, 0, 0), 5);
        x.term(0, 3, 0, 10);
        Due.same("15: one without a rule", x.back(0, 3, 1), 3);
        Due.same("15: none of one without a rule", x.back(0, 3, 0), 0);
    }

    private static void promise15BackUpToToday() {
        TermReckoner x = one();
        x.term(0, 0, 0, 100);
        x.off(0, 0, 2, 0);
        Due.same("15: on day 0 nothing is taken", x.back(0, 0, 1), 3);
        x.today(1);
        Due.same("15: on day 1 one is", x.back(0, 0, 1), 0);
        x.today(9);
        x.as(0);
        Due.same("15: told is by what is known TODAY", x.back(0, 0, 4), 0);
        Due.same("15: that were five", x.back(0, 0, 1), 3);
        x.off(0, 0, 100, 0);
        x.as(-1);
        Due.same("15: less is taken than given: off is 0", x.ends(0, 0, false), 99);
        Due.same("15: fewer given, though more than taken", x.back(0, 0, -1), 0);
        Due.same("15: and none, too", x.back(0, 0, 0), 0);
        x.tear(0, 0);
        x.off(0, 0, 2, 0);
        Due.same("15: an open month is held (LEAST): one more of five", x.back(0, 0, 1), 0);
        Due.same("15: not two", x.back(0, 0, 1), 3);
    }

    private static void promise16Grant() {
        TermReckoner x = one();
        Due.same("16: no such person", x.grant(1, 0), 1);
        Due.same("16: day -1", x.grant(0, -1), 3);
        Due.same("16: day 3600", x.grant(0, 3600), 3);
        Due.same("16: without an order", x.grant(0, 0), 0);
        x.term(0, 0, 10, 21);
        // Half of 21, rounded up, is 11: days 10 to 20.
        Due.same("16: ahead of watched", x.grant(0, 19), 8);
        Due.same("16: on it", x.grant(0, 20), 0);
        Due.same("16: behind it", x.grant(0, 3599), 0);
        x.tear(0, 0);
        Due.same("16: least", x.grant(0, 20), 0);
        x.stay(0, 1, 6, 15, 15, 1);
        Due.same("16: a day later", x.grant(0, 20), 8);
        x.as(0);
        Due.same("16: by what is known TODAY", x.grant(0, 21), 0);
        x.waits(0, 2, 5, 3590, 20, 0);
        Due.same("16: it is never watched", x.grant(0, 3599), 8);
        x.quash(0, 3, 2);
        Due.same("16: a quashed one is none", x.grant(0, 21), 0);
        TermReckoner y = one();
        y.term(0, 0, 0, 2000);
        Due.same("16: half of 2000", y.grant(0, 999), 0);
        Due.same("16: ahead of that", y.grant(0, 998), 8);
    }

    private static void promise17Recall() {
        TermReckoner x = one();
        x.term(0, 0, 0, 100);
        Due.same("17: no such person", x.recall(1, 1, 60, 500), 1);
        Due.same("17: no such place", x.recall(0, 12, 60, 500), 1);
        Due.same("17: the place has something", x.recall(0, 0, -1, 0), 2);
        Due.same("17: day -1", x.recall(0, 1, -1, 500), 3);
        Due.same("17: day 3600", x.recall(0, 1, 3600, 500), 3);
        Due.same("17: thousandths 0", x.recall(0, 1, 60, 0), 3);
        Due.same("17: thousandths 1001", x.recall(0, 1, 60, 1001), 3);
        Due.same("17: no grant", x.recall(0, 1, 60, 500), 8);
        x.grant(0, 70);
        x.grant(0, 51);
        Due.same("17: on the day of the latest grant", x.recall(0, 1, 51, 500), 8);
        Due.same("17: ahead of it", x.recall(0, 1, 50, 500), 8);
        // From 51 to 100 there are 49 days: 24.5 are 25.
        Due.same("17: behind it", x.recall(0, 1, 52, 500), 0);
        Due.same("17: it is a term", x.kind(0, 1), 2);
        Due.same("17: it begins on the day", x.begins(0, 1, false), 52);
        Due.same("17: its need", x.ends(0, 1, false), 76);
        Due.same("17: the least", x.recall(0, 2, 200, 1), 0);
        Due.same("17: one day", x.ends(0, 2, false), 200);
        // FULL is 201 now: 150 days.
        Due.same("17: the whole", x.recall(0, 3, 1000, 1000), 0);
        Due.same("17: 150 days", x.ends(0, 3, false), 1149);
        x.quash(0, 4, 0);
        Due.same("17: what was reckoned then stays", x.ends(0, 3, false), 1149);
        Due.same("17: a rule is for it, too", x.off(0, 3, 2, 0), 0);
        Due.same("17: 100 and 50", x.ends(0, 3, false), 1099);
        x.waits(0, 5, 5, 0, 1, 0);
        Due.same("17: full is never", x.recall(0, 6, 1200, 500), 8);
        x.quash(0, 7, 5);
        x.grant(0, 1100);
        Due.same("17: full is the day of the grant", x.recall(0, 6, 1200, 500), 8);
        x.grant(0, 1099);
        Due.same("17: full is the day behind it", x.recall(0, 6, 1100, 1), 0);
        TermReckoner y = one();
        y.term(0, 0, 0, 20);
        y.tear(0, 0);
        y.grant(0, 9);
        y.as(0);
        // Least: FULL is 20, 11 days from day 9 on. Most would be 41.
        Due.same("17: least", y.recall(0, 1, 30, 1000), 0);
        Due.same("17: eleven days", y.ends(0, 1, false), 40);
    }

    private static void fullLog() {
        TermReckoner x = one();
        x.term(0, 0, 0, 10);
        x.off(0, 0, 2, 0);
        x.month(0, 0, false, 30);
        for (int i = 3; i < 400; i++) {
            Due.same("an entry more", x.tear(0, 1 + i % 100), 0);
        }
        Due.same("400 entries", x.count(2), 400);
        Due.same("7: letter", x.letter(0, 1), 7);
        Due.same("7: term", x.term(0, 1, 0, 1), 7);
        Due.same("7: waits", x.waits(0, 1, 3, 0, 1, 0), 7);
        Due.same("7: stay", x.stay(0, 1, 6, 0, 1, 0), 7);
        Due.same("7: quash", x.quash(0, 1, 0), 7);
        Due.same("7: month", x.month(0, 1, true, 3), 7);
        Due.same("7: held", x.held(0, 0, 0, 0), 7);
        Due.same("7: tear", x.tear(0, 0), 7);
        Due.same("7: copy", x.copy(0, 0, 0, 1), 7);
        Due.same("7: off", x.off(0, 0, 3, 0), 7);
        Due.same("7: back", x.back(0, 0, 0), 7);
        Due.same("7: grant", x.grant(0, 3599), 7);
        Due.same("7: grant ahead of watched", x.grant(0, 0), 7);
        Due.same("7: recall without a grant", x.recall(0, 1, 5, 5), 7);
        Due.same("7: take", x.take(0, 7, 0, 0, 0, 0, 0, 0), 7);
        Due.same("a ring goes ahead of 7", x.waits(0, 1, 3, 0, 1, 2), 4);
        Due.same("and is kept", x.ring(0), 1);
        Due.same("nothing changed", x.kind(0, 1), 0);
        Due.same("nor the month", x.open(0, 0), 0);
        Due.same("still 400", x.count(2), 400);
        Due.same("a person may come", x.person(), 1);
    }

    private static void leastStatus() {
        TermReckoner x = one();
        x.letter(0, 0);
        x.month(0, 0, false, 5);
        Due.same("1 ahead of 2 and 3", x.waits(3, 0, 9, -1, 0, -1), 1);
        Due.same("2 ahead of 3 and 4", x.waits(0, 0, 3, -1, 0, 1), 2);
        Due.same("2 ahead of a ring", x.waits(0, 0, 3, 0, 1, 1), 2);
        Due.same("no ring was kept", x.ring(0), -1);
        Due.same("1 ahead of 3", x.month(0, 120, false, 31), 1);
        Due.same("2 ahead of 5", x.quash(0, 0, 0), 2);
        Due.same("1 ahead of 6", x.held(0, 120, 99, 999), 1);
        Due.same("3 ahead of 8", x.recall(0, 1, 0, 0), 3);
        Due.same("2 ahead of 8", x.recall(0, 0, 0, 1), 2);
        Due.same("refused calls are no entries", x.count(2), 2);
    }
}
