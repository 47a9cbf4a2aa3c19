/** Promises 18 to 33: all that is asked, and the log that goes from one registry to another. */
public final class AskingTest {
    private static final boolean LEAST = false;
    private static final boolean MOST = true;
    private static final int LOW = Integer.MIN_VALUE;
    private static final int HIGH = Integer.MAX_VALUE;

    private AskingTest() {
    }

    public static void main(String[] args) {
        promise18Kind();
        promise19Begins();
        promise19Beside();
        promise20Ends();
        promise20Credits();
        promise21Counted();
        promise22Taken();
        promise23Why();
        promise24By();
        promise25Full();
        promise26Watched();
        promise27Open();
        promise28Over();
        promise29Ring();
        promise30Check();
        promise31Image();
        promise32Take();
        promise33Count();
        quashedAsKnown();
        allAsKnown();
        Due.close("AskingTest");
    }

    private static TermReckoner one() {
        TermReckoner x = new TermReckoner();
        x.person();
        return x;
    }

    private static void promise18Kind() {
        TermReckoner x = one();
        x.today(3);
        x.letter(0, 1);
        x.term(0, 2, 0, 1);
        x.waits(0, 3, 3, 0, 1, 0);
        x.waits(0, 4, 4, 0, 1, 0);
        x.waits(0, 5, 5, 0, 1, 0);
        x.stay(0, 6, 6, 0, 1, 0);
        x.stay(0, 7, 7, 0, 1, 0);
        x.quash(0, 8, 7);
        for (int place = 0; place <= 8; place++) {
            Due.same("18: kind of place " + place, x.kind(0, place), place);
        }
        Due.same("18: no such place", x.kind(0, 12), -1);
        Due.same("18: place -1", x.kind(0, -1), -1);
        Due.same("18: no such person", x.kind(1, 0), -1);
        Due.same("18: person LOW", x.kind(LOW, 0), -1);
        x.as(2);
        Due.same("18: as known ahead of all", x.kind(0, 5), 0);
        Due.same("18: still no such place", x.kind(0, 12), -1);
    }

    private static void promise19Begins() {
        TermReckoner x = one();
        x.term(0, 0, 10, 20);
        x.term(0, 1, 5, 40);
        x.waits(0, 2, 3, 20, 5, 3);
        x.waits(0, 3, 3, 100, 5, 3);
        x.waits(0, 4, 5, 7, 5, 4);
        x.waits(0, 5, 3, 0, 5, 16);
        x.waits(0, 6, 3, 9, 5, 4095 - 1 - 2 - 4 - 8 - 16 - 32 - 64);
        Due.same("19: a term", x.begins(0, 0, LEAST), 10);
        Due.same("19: behind the last end, 44", x.begins(0, 2, LEAST), 45);
        Due.same("19: from, as that is later", x.begins(0, 3, LEAST), 100);
        Due.same("19: a life behind a behind", x.begins(0, 4, LEAST), 50);
        Due.same("19: behind a life", x.begins(0, 5, LEAST), -1);
        Due.same("19: behind places that have nothing", x.begins(0, 6, LEAST), 9);
        Due.same("19: nothing", x.begins(0, 7, LEAST), -1);
        Due.same("19: no such place", x.begins(0, 12, LEAST), -1);
        Due.same("19: no such person", x.begins(1, 0, LEAST), -1);
        x.letter(0, 7);
        Due.same("19: a letter", x.begins(0, 7, LEAST), -1);
        x.tear(0, 1);
        // Most: 1 has counted 25 days of 0 to 29, then goes on at 60: 15 days more.
        Due.same("19: most", x.begins(0, 2, MOST), 75);
        Due.same("19: least is as it was", x.begins(0, 2, LEAST), 45);
        x.quash(0, 8, 1);
        Due.same("19: quashed", x.begins(0, 1, LEAST), -1);
        Due.same("19: quashed ones are none", x.begins(0, 2, LEAST), 30);
        TermReckoner y = one();
        y.term(0, 0, 0, 3599);
        y.waits(0, 1, 3, 0, 1, 1);
        Due.same("19: on the last day", y.begins(0, 1, LEAST), 3599);
        TermReckoner z = one();
        z.term(0, 0, 0, 3600);
        z.waits(0, 1, 3, 0, 1, 1);
        Due.same("19: behind 3599 is never", z.begins(0, 1, LEAST), -1);
        TermReckoner chain = one();
        chain.term(0, 11, 0, 1);
        for (int place = 10; place >= 0; place--) {
            chain.waits(0, place, 3, 0, 1, 1 << place + 1);
        }
        Due.same("19: behind eleven others, one behind the other", chain.begins(0, 0, LEAST), 11);
    }

    private static void promise19Beside() {
        TermReckoner x = one();
        x.term(0, 0, 30, 10);
        x.waits(0, 1, 3, 0, 10, 1);
        x.waits(0, 2, 4, 0, 10, 3);
        x.waits(0, 3, 4, 35, 10, 3);
        x.waits(0, 4, 5, 3000, 10, 0);
        x.waits(0, 5, 3, 0, 10, 16);
        x.waits(0, 6, 4, 2, 10, 32);
        x.waits(0, 7, 4, 2, 10, 32 + 2);
        x.waits(0, 8, 4, 2, 10, 0);
        x.waits(0, 9, 4, 2, 10, 1 << 10);
        Due.same("19: with the first of them", x.begins(0, 2, LEAST), 30);
        Due.same("19: from is later", x.begins(0, 3, LEAST), 35);
        Due.same("19: with a life", x.begins(0, 4, LEAST), 3000);
        Due.same("19: with one that never begins", x.begins(0, 6, LEAST), -1);
        Due.same("19: with one that begins and one that never does", x.begins(0, 7, LEAST), 40);
        Due.same("19: with none", x.begins(0, 8, LEAST), 2);
        Due.same("19: with nothing", x.begins(0, 9, LEAST), 2);
        x.quash(0, 10, 5);
        Due.same("19: with a quashed one", x.begins(0, 6, LEAST), 2);
        Due.same("19: with a quashed one and another", x.begins(0, 7, LEAST), 40);
    }

    private static void promise20Ends() {
        TermReckoner x = one();
        x.term(0, 0, 10, 20);
        x.waits(0, 1, 5, 0, 1, 0);
        x.stay(0, 2, 6, 15, 19, 1);
        Due.same("20: behind five stayed days", x.ends(0, 0, LEAST), 34);
        Due.same("20: a life", x.ends(0, 1, LEAST), -1);
        Due.same("20: a stay", x.ends(0, 2, LEAST), -1);
        Due.same("20: no such place", x.ends(0, -1, LEAST), -1);
        Due.same("20: no such person", x.ends(6, 0, MOST), -1);
        x.month(0, 0, false, 30);
        x.held(0, 0, 29, 0);
        Due.same("20: and a day not held", x.ends(0, 0, LEAST), 35);
        x.month(0, 1, false, 29);
        Due.same("20: open, least", x.ends(0, 0, LEAST), 35);
        Due.same("20: open, most", x.ends(0, 0, MOST), 65);
        x.quash(0, 3, 2);
        Due.same("20: the stay is quashed", x.ends(0, 0, LEAST), 30);
        x.quash(0, 4, 0);
        Due.same("20: the order is", x.ends(0, 0, LEAST), -1);
        TermReckoner y = one();
        y.term(0, 0, 0, 3600);
        y.term(0, 1, 1, 3599);
        y.term(0, 2, 2, 3599);
        Due.same("20: all days", y.ends(0, 0, LEAST), 3599);
        Due.same("20: from day 1", y.ends(0, 1, LEAST), 3599);
        Due.same("20: too late", y.ends(0, 2, LEAST), -1);
        y.off(0, 2, 100, 0);
        // d + d / 100 >= 3599 first where d is 3564.
        Due.same("20: with days taken off", y.ends(0, 2, LEAST), 3565);
    }

    private static void promise20Credits() {
        TermReckoner x = one();
        x.term(0, 0, 100, 20);
        x.stay(0, 1, 7, 0, 9, 1);
        Due.same("20: ten days by credit", x.ends(0, 0, LEAST), 109);
        x.stay(0, 2, 7, 20, 29, 1);
        Due.same("20: ended ahead of its begin", x.ends(0, 0, LEAST), 29);
        Due.same("20: that is as it was", x.begins(0, 0, LEAST), 100);
        x.waits(0, 3, 3, 0, 5, 1);
        Due.same("20: behind it", x.begins(0, 3, LEAST), 30);
        x.waits(0, 4, 5, 0, 5, 0);
        x.waits(0, 5, 3, 0, 5, 16);
        x.stay(0, 6, 7, 50, 54, 32);
        Due.same("20: one that never begins", x.begins(0, 5, LEAST), -1);
        Due.same("20: ends by credit", x.ends(0, 5, LEAST), 54);
        x.stay(0, 7, 6, 52, 52, 4095);
        Due.same("20: a stay goes ahead of a credit", x.ends(0, 5, LEAST), -1);
        x.tear(0, 3);
        Due.same("20: credited days count in an open month", x.ends(0, 0, MOST), 29);
    }

    private static void promise21Counted() {
        TermReckoner x = one();
        x.term(0, 0, 10, 50);
        x.stay(0, 1, 6, 20, 24, 1);
        Due.same("21: ahead of it", x.counted(0, 0, 9, LEAST), 0);
        Due.same("21: the first day, with it", x.counted(0, 0, 10, LEAST), 1);
        Due.same("21: up to the stay", x.counted(0, 0, 19, LEAST), 10);
        Due.same("21: in the stay", x.counted(0, 0, 24, LEAST), 10);
        Due.same("21: behind it", x.counted(0, 0, 25, LEAST), 11);
        Due.same("21: its end", x.counted(0, 0, 64, LEAST), 50);
        Due.same("21: behind the end", x.counted(0, 0, 3599, LEAST), 50);
        Due.same("21: day 3600", x.counted(0, 0, 3600, LEAST), -1);
        Due.same("21: day -1", x.counted(0, 0, -1, LEAST), -1);
        Due.same("21: a stay", x.counted(0, 1, 20, LEAST), -1);
        Due.same("21: nothing", x.counted(0, 2, 20, LEAST), -1);
        Due.same("21: no such place", x.counted(0, 12, 20, LEAST), -1);
        Due.same("21: no such person", x.counted(-1, 0, 20, LEAST), -1);
        x.tear(0, 1);
        Due.same("21: least", x.counted(0, 0, 59, LEAST), 45);
        Due.same("21: most", x.counted(0, 0, 59, MOST), 15);
        x.waits(0, 3, 5, 3590, 3, 0);
        Due.same("21: a life goes on", x.counted(0, 3, 3599, LEAST), 10);
        x.off(0, 0, 3, 0);
        x.quash(0, 4, 0);
        Due.same("21: a quashed one is none", x.counted(0, 0, 59, LEAST), -1);
        Due.same("22: a quashed one is none", x.taken(0, 0, 59), -1);
    }

    private static void promise22Taken() {
        TermReckoner x = one();
        x.term(0, 0, 0, 100);
        Due.same("22: without a rule", x.taken(0, 0, 3599), 0);
        x.off(0, 0, 7, 500);
        Due.same("22: six days", x.taken(0, 0, 5), 0);
        Due.same("22: seven days", x.taken(0, 0, 6), 1);
        Due.same("22: thirteen days", x.taken(0, 0, 12), 1);
        x.stay(0, 1, 6, 13, 13, 1);
        // Rows 0 to 12 and 14 on: 1, and one at 20.
        Due.same("22: a broken row", x.taken(0, 0, 13), 1);
        Due.same("22: a row is counted by itself", x.taken(0, 0, 19), 1);
        Due.same("22: anew", x.taken(0, 0, 20), 2);
        // d + 1 + (d - 13) / 7 >= 100 first where d is 90: 77 / 7 = 11, 102; 89: 10, 100; 88: 10, 99.
        Due.same("22: its end", x.ends(0, 0, LEAST), 89);
        Due.same("22: behind the end nothing more", x.taken(0, 0, 3599), 11);
        x.off(0, 0, 2, 0);
        Due.same("22: one in two", x.taken(0, 0, 12), 6);
        Due.same("22: rows over the months", x.taken(0, 0, 33), 6 + 10);
        x.off(0, 0, 2, 955);
        // 95.5 are 96: four may be taken.
        Due.same("22: four at most", x.taken(0, 0, 12), 4);
        Due.same("22: its end then", x.ends(0, 0, LEAST), 96);
        x.off(0, 0, 2, 1000);
        Due.same("22: none at most", x.taken(0, 0, 50), 0);
        x.off(0, 0, 2, 0);
        x.tear(0, 0);
        Due.same("22: least", x.taken(0, 0, 12), 6);
        x.today(12);
        x.back(0, 0, 5);
        Due.same("22: before what is given", x.taken(0, 0, 12), 6);
        x.waits(0, 2, 5, 0, 100, 0);
        Due.same("22: a life", x.taken(0, 2, 50), 0);
        Due.same("22: a stay", x.taken(0, 1, 50), -1);
        Due.same("22: nothing", x.taken(0, 3, 50), -1);
        Due.same("22: no day", x.taken(0, 0, 3600), -1);
        Due.same("22: day LOW", x.taken(0, 0, LOW), -1);
        Due.same("22: no such person", x.taken(1, 0, 0), -1);
        Due.same("22: no such place", x.taken(0, HIGH, 0), -1);
        x.term(0, 4, 3590, 100);
        x.off(0, 4, 11, 0);
        Due.same("22: ten days up to the last one", x.taken(0, 4, 3599), 0);
        x.off(0, 4, 10, 0);
        Due.same("22: one of ten", x.taken(0, 4, 3599), 1);
    }

    private static void promise23Why() {
        TermReckoner x = one();
        x.term(0, 0, 10, 20);
        x.stay(0, 1, 6, 5, 12, 1);
        x.stay(0, 2, 7, 12, 16, 1);
        x.month(0, 0, false, 30);
        x.held(0, 0, 15, 0);
        x.held(0, 0, 20, 0);
        Due.same("23: not begun", x.why(0, 0, 4), 2);
        Due.same("23: a stay ahead of the begin", x.why(0, 0, 5), 4);
        Due.same("23: a stay ahead of a credit", x.why(0, 0, 12), 4);
        Due.same("23: a credit though held", x.why(0, 0, 13), 1);
        Due.same("23: a credit though not held", x.why(0, 0, 15), 1);
        Due.same("23: held", x.why(0, 0, 17), 0);
        Due.same("23: not held", x.why(0, 0, 20), 5);
        // 13 to 16, 17 to 19, 21 on: 7 and 13 more, up to 33.
        Due.same("23: the end", x.why(0, 0, 33), 0);
        Due.same("23: it has ended", x.why(0, 0, 34), 3);
        x.stay(0, 3, 6, 30, 50, 2);
        Due.same("23: a stay of others", x.why(0, 0, 33), 0);
        x.stay(0, 4, 6, 34, 50, 1);
        x.stay(0, 5, 7, 34, 50, 1);
        Due.same("23: ended ahead of a stay and a credit", x.why(0, 0, 34), 3);
        x.stay(0, 6, 7, 2, 2, 1);
        Due.same("23: a credit ahead of the begin", x.why(0, 0, 2), 1);
        Due.same("23: a stay's place", x.why(0, 1, 0), 7);
        Due.same("23: nothing", x.why(0, 11, 0), 7);
        Due.same("23: no such person", x.why(1, 0, 0), -1);
        Due.same("23: no such place", x.why(0, 12, 0), -1);
        Due.same("23: day -1", x.why(0, 0, -1), -1);
        Due.same("23: day 3600", x.why(0, 11, 3600), -1);
        x.quash(0, 7, 0);
        Due.same("23: quashed", x.why(0, 0, 34), 6);
        Due.same("23: a quash", x.why(0, 7, 34), 7);
        x.quash(0, 8, 1);
        Due.same("23: a quashed stay is no order that runs", x.why(0, 1, 34), 7);
        x.waits(0, 9, 5, 50, 1, 0);
        x.waits(0, 10, 4, 50, 1, 1 << 9);
        Due.same("23: a life", x.why(0, 9, 3599), 0);
        x.tear(0, 1);
        Due.same("23: least", x.why(0, 9, 51), 0);
        TermReckoner y = one();
        y.term(0, 0, 0, 40);
        y.month(0, 1, false, 30);
        y.held(0, 1, 0, 0);
        Due.same("23: the first of a month not held", y.why(0, 0, 30), 5);
        y.tear(0, 0);
        Due.same("23: least, on its end", y.why(0, 0, 40), 0);
        Due.same("23: least, it has ended", y.why(0, 0, 41), 3);
    }

    private static void promise24By() {
        TermReckoner x = one();
        x.term(0, 5, 10, 20);
        x.stay(0, 4, 6, 12, 12, 32);
        x.stay(0, 3, 6, 12, 13, 4095);
        x.stay(0, 8, 7, 0, 14, 32);
        x.stay(0, 7, 7, 0, 0, 32);
        x.stay(0, 2, 7, 0, 0, 16);
        Due.same("24: the least stay", x.by(0, 5, 12), 3);
        Due.same("24: the stay, not the credit", x.by(0, 5, 13), 3);
        Due.same("24: the least credit that has it", x.by(0, 5, 0), 7);
        Due.same("24: the credit", x.by(0, 5, 14), 8);
        Due.same("24: held", x.by(0, 5, 15), -1);
        Due.same("24: it has ended", x.by(0, 5, 100), -1);
        Due.same("24: nothing", x.by(0, 0, 0), -1);
        Due.same("24: no such person", x.by(1, 5, 0), -1);
        Due.same("24: no such place", x.by(0, -1, 0), -1);
        Due.same("24: no day", x.by(0, 5, 3600), -1);
        x.quash(0, 0, 3);
        Due.same("24: the least is quashed", x.by(0, 5, 12), 4);
        Due.same("24: only a credit is left", x.by(0, 5, 13), 8);
        Due.same("24: the quash of a stay is none of an order that runs", x.by(0, 3, 12), -1);
        x.quash(0, 1, 7);
        Due.same("24: another credit", x.by(0, 5, 0), 8);
        x.quash(0, 6, 5);
        Due.same("24: the quash", x.by(0, 5, 12), 6);
        Due.same("24: on every day", x.by(0, 5, 3599), 6);
        TermReckoner y = one();
        y.term(0, 1, 0, 100);
        y.stay(0, 0, 6, 29, 30, 2);
        y.stay(0, 2, 6, 60, 60, 2);
        y.stay(0, 3, 6, 88, 89, 2);
        int[] days = {28, 29, 30, 31, 59, 60, 61, 87, 88, 89, 90};
        int[] stays = {-1, 0, 0, -1, -1, 2, -1, -1, 3, 3, -1};
        for (int i = 0; i < days.length; i++) {
            Due.same("24: day " + days[i] + " at a month's edge", y.by(0, 1, days[i]), stays[i]);
        }
        Due.same("24: just these count not", y.counted(0, 1, 99, LEAST), 95);
        Due.same("24: on the first of a month", y.counted(0, 1, 60, LEAST), 58);
    }

    private static void promise25Full() {
        TermReckoner x = one();
        Due.same("25: without an order", x.full(0, LEAST), 0);
        x.letter(0, 0);
        x.stay(0, 1, 6, 3, 9, 4095);
        Due.same("25: without one that runs", x.full(0, MOST), 0);
        x.term(0, 2, 0, 10);
        Due.same("25: one", x.full(0, LEAST), 17);
        x.term(0, 3, 0, 5);
        Due.same("25: the last", x.full(0, LEAST), 17);
        x.tear(0, 0);
        Due.same("25: most", x.full(0, MOST), 40);
        x.waits(0, 4, 5, 0, 1, 0);
        Due.same("25: a life", x.full(0, LEAST), -1);
        x.quash(0, 5, 4);
        Due.same("25: a quashed one is none", x.full(0, LEAST), 17);
        x.term(0, 6, 3599, 1);
        Due.same("25: 3600", x.full(0, LEAST), 3600);
        x.term(0, 7, 3599, 2);
        Due.same("25: never", x.full(0, LEAST), -1);
        Due.same("25: no such person", x.full(1, LEAST), -1);
        Due.same("25: person -1", x.full(-1, LEAST), -1);
        x.quash(0, 8, 6);
        x.quash(0, 9, 7);
        x.quash(0, 10, 2);
        x.quash(0, 11, 3);
        Due.same("25: all quashed", x.full(0, LEAST), 0);
    }

    private static void promise26Watched() {
        TermReckoner x = one();
        Due.same("26: without an order", x.watched(0, 1000, LEAST), 0);
        x.term(0, 0, 10, 21);
        Due.same("26: by 0", x.watched(0, 0, LEAST), 0);
        Due.same("26: by 1", x.watched(0, 1, LEAST), 10);
        Due.same("26: by 500", x.watched(0, 500, LEAST), 20);
        Due.same("26: by 1000", x.watched(0, 1000, LEAST), 30);
        Due.same("26: by 1001", x.watched(0, 1001, LEAST), -1);
        Due.same("26: by -1", x.watched(0, -1, LEAST), -1);
        Due.same("26: no such person", x.watched(1, 500, LEAST), -1);
        x.off(0, 0, 2, 0);
        // d + d / 2 >= 21 first where d is 14: it ends on day 23 with 14 counted.
        Due.same("26: it has ended", x.watched(0, 1000, LEAST), 23);
        Due.same("26: taken days do not count", x.watched(0, 500, LEAST), 20);
        x.tear(0, 0);
        // Most: day 0 of month 1 is its first.
        Due.same("26: most", x.watched(0, 500, MOST), 40);
        x.term(0, 1, 0, 60);
        Due.same("26: the last of two", x.watched(0, 500, LEAST), 29);
        x.waits(0, 2, 5, 50, 30, 0);
        Due.same("26: a life needs all", x.watched(0, 0, LEAST), 79);
        x.waits(0, 3, 5, 3590, 11, 0);
        Due.same("26: never", x.watched(0, 0, LEAST), -1);
        x.quash(0, 4, 3);
        x.quash(0, 5, 2);
        Due.same("26: quashed ones are none", x.watched(0, 500, LEAST), 29);
        TermReckoner y = one();
        y.waits(0, 0, 5, 3590, 10, 0);
        Due.same("26: on the last day", y.watched(0, 0, LEAST), 3599);
        TermReckoner z = one();
        z.waits(0, 0, 5, 0, 1, 0);
        z.waits(0, 1, 3, 0, 8, 1);
        Due.same("26: one that never begins", z.watched(0, 500, LEAST), -1);
        Due.same("26: none of it", z.watched(0, 0, LEAST), 0);
        z.stay(0, 2, 7, 70, 80, 2);
        Due.same("26: by credit", z.watched(0, 500, LEAST), 73);
        TermReckoner whole = one();
        whole.term(0, 0, 0, 3600);
        Due.same("26: by 0 from day 0 on", whole.watched(0, 0, LEAST), 0);
        Due.same("26: 3600 by 1", whole.watched(0, 1, LEAST), 3);
        Due.same("26: 3600 by 999", whole.watched(0, 999, LEAST), 3596);
        Due.same("26: 3600 by 1000", whole.watched(0, 1000, LEAST), 3599);
    }

    private static void promise27Open() {
        TermReckoner x = one();
        Due.same("27: plain", x.open(0, 0), 0);
        x.month(0, 0, false, 29);
        x.month(0, 1, true, 30);
        x.tear(0, 119);
        Due.same("27: short", x.open(0, 0), 1);
        Due.same("27: whole", x.open(0, 1), 0);
        Due.same("27: torn", x.open(0, 119), 1);
        Due.same("27: month -1", x.open(0, -1), -1);
        Due.same("27: month 120", x.open(0, 120), -1);
        Due.same("27: no such person", x.open(1, 0), -1);
        x.today(3);
        x.month(0, 0, false, 30);
        Due.same("27: whole now", x.open(0, 0), 0);
        x.as(2);
        Due.same("27: as known", x.open(0, 0), 1);
    }

    private static void promise28Over() {
        TermReckoner x = one();
        Due.same("28: no such person", x.over(1), -1);
        Due.same("28: person -1", x.over(-1), -1);
        x.term(0, 0, 0, 10);
        x.month(0, 0, false, 30);
        Due.same("28: ahead of full", x.over(0), 0);
        x.today(9);
        Due.same("28: the last day", x.over(0), 0);
        x.today(10);
        Due.same("28: full itself", x.over(0), 1);
        x.today(100);
        Due.same("28: the row", x.over(0), 20);
        x.held(0, 0, 15, 0);
        Due.same("28: a day less", x.over(0), 19);
        x.month(0, 1, false, 29);
        Due.same("28: an open month tells none", x.over(0), 19);
        x.month(0, 2, true, 30);
        Due.same("28: a third month", x.over(0), 49);
        x.month(0, 3, true, 30);
        Due.same("28: up to TODAY: days 90 to 100", x.over(0), 60);
        x.as(10);
        Due.same("28: as known on day 10", x.over(0), 1);
        x.as(100);
        x.waits(0, 1, 5, 0, 1, 0);
        Due.same("28: full is never", x.over(0), 0);
        x.quash(0, 2, 1);
        x.quash(0, 3, 0);
        Due.same("28: all quashed: from day 0 on", x.over(0), 29 + 30 + 11);
        x.tear(0, 0);
        Due.same("28: a torn one tells none", x.over(0), 41);
        TermReckoner y = one();
        y.term(0, 0, 0, 40);
        y.tear(0, 0);
        y.month(0, 1, false, 30);
        y.today(60);
        Due.same("28: least: full is 40", y.over(0), 20);
    }

    private static void ringIs(TermReckoner x, String what, int... places) {
        for (int i = 0; i < places.length; i++) {
            Due.same(what + ", its place " + i, x.ring(i), places[i]);
        }
        Due.same(what + ", behind it", x.ring(places.length), -1);
        Due.same(what + ", -1", x.ring(-1), -1);
    }

    private static void promise29Ring() {
        TermReckoner x = one();
        Due.same("29: no ring yet", x.ring(0), -1);
        x.waits(0, 7, 3, 0, 1, 128);
        ringIs(x, "29: of one", 7);
        x.waits(0, 5, 3, 0, 1, 1 << 2);
        x.waits(0, 2, 3, 0, 1, 1 << 9);
        x.waits(0, 9, 3, 0, 1, 1 << 5);
        ringIs(x, "29: from the least on", 2, 9, 5);
        Due.same("29: what is told stays no ring", x.letter(0, 0), 0);
        ringIs(x, "29: an answer 0 keeps it", 2, 9, 5);
        x.today(5);
        x.as(1);
        ringIs(x, "29: on every day", 2, 9, 5);
        x.as(-1);
        // Also straight back to 2, in fewer.
        x.waits(0, 9, 4, 0, 1, 1 << 5 | 1 << 6);
        ringIs(x, "29: still the three", 2, 9, 5);
        x.waits(0, 6, 4, 0, 1, 1 << 9);
        x.waits(0, 9, 4, 0, 1, 1 << 5 | 1 << 6);
        ringIs(x, "29: the one of the fewest", 6, 9);
        TermReckoner y = one();
        y.waits(0, 1, 3, 0, 1, 1 << 0 | 1 << 4);
        y.waits(0, 3, 3, 0, 1, 1 << 0);
        y.waits(0, 2, 3, 0, 1, 1 << 4);
        y.waits(0, 4, 3, 0, 1, 1 << 5);
        y.waits(0, 0, 3, 0, 1, 1 << 5);
        y.waits(0, 5, 3, 0, 1, 1 << 1 | 1 << 2 | 1 << 3);
        ringIs(y, "29: of several as short the least", 0, 5, 1);
        TermReckoner z = one();
        z.waits(0, 1, 3, 0, 1, 1 << 5 | 1 << 6);
        z.waits(0, 5, 3, 0, 1, 1 << 8);
        z.waits(0, 6, 3, 0, 1, 1 << 8);
        z.waits(0, 8, 3, 0, 1, 1 << 1);
        ringIs(z, "29: then of the least second", 1, 5, 8);
        z.take(0, 2, 0, 8, 3, 0, 1, 1 << 8);
        ringIs(z, "29: also by take", 8);
        TermReckoner all = one();
        for (int place = 0; place < 11; place++) {
            all.waits(0, (place * 5 + 3) % 12, 3, 0, 1, 1 << (place * 5 + 8) % 12);
        }
        Due.same("29: the twelfth", all.waits(0, 10, 3, 0, 1, 1 << 3), 4);
        ringIs(all, "29: of all twelve", 0, 5, 10, 3, 8, 1, 6, 11, 4, 9, 2, 7);
    }

    private static void promise30Check() {
        TermReckoner x = one();
        x.term(0, 0, 10, 15);
        x.stay(0, 1, 6, 12, 12, 1);
        // Counts on 10, 11 and 13 to 25.
        int bits = 0b1111111111111011 << 10;
        Due.same("30: right", x.check(0, 0, 0, bits), -1);
        Due.same("30: a day too many", x.check(0, 0, 0, bits | 1 << 12), 12);
        Due.same("30: a day too few", x.check(0, 0, 0, bits & ~(1 << 25)), 25);
        Due.same("30: the first of two", x.check(0, 0, 0, bits ^ 1 << 3 ^ 1 << 25), 3);
        Due.same("30: the last day", x.check(0, 0, 0, bits ^ LOW), 31);
        Due.same("30: the first day", x.check(0, 0, 0, bits ^ 1), 0);
        Due.same("30: all days other", x.check(0, 0, 0, ~bits), 0);
        Due.same("30: from another day on", x.check(0, 0, 13, 0b1111111111111), -1);
        Due.same("30: from day 3599 on", x.check(0, 0, 3599, 0), -1);
        Due.same("30: day 3600 is none", x.check(0, 0, 3599, 2), 3600);
        Due.same("30: nor is 3630", x.check(0, 0, 3599, LOW), 3630);
        x.waits(0, 2, 5, 3598, 1, 0);
        Due.same("30: the last days", x.check(0, 2, 3596, 0b1100), -1);
        Due.same("30: but no more", x.check(0, 2, 3596, -1 & ~3), 3600);
        Due.same("30: no such person", x.check(1, 0, 0, 0), -2);
        Due.same("30: no such place", x.check(0, 12, 0, 0), -2);
        Due.same("30: no such day", x.check(0, 0, 3600, 0), -2);
        Due.same("30: day -1", x.check(0, 0, -1, 0), -2);
        Due.same("30: a stay", x.check(0, 1, 0, 0), -2);
        Due.same("30: nothing", x.check(0, 3, 0, 0), -2);
        Due.same("30: it is no entry", x.count(2), 3);
        x.tear(0, 0);
        Due.same("30: least", x.check(0, 0, 0, bits), -1);
        x.stay(0, 4, 7, 2, 2, 1);
        Due.same("30: a credit", x.check(0, 0, 0, bits & ~(1 << 25) | 4), -1);
        x.quash(0, 5, 0);
        Due.same("30: quashed", x.check(0, 0, 0, 0), -2);
    }

    private static void entryIs(TermReckoner x, int i, int... numbers) {
        for (int j = 0; j < 8; j++) {
            int due = j < numbers.length ? numbers[j] : 0;
            Due.same("31: entry " + i + ", number " + j, x.image(i, j), due);
        }
    }

    private static void promise31Image() {
        TermReckoner x = everyCall();
        entryIs(x, 0, 0, 0, 1, 11);
        entryIs(x, 1, 0, 1, 0, 0, 2, 30);
        entryIs(x, 2, 0, 2, 0, 1, 3, 4, 50, 1);
        entryIs(x, 3, 1, 3, 0, 2, 7, 8, 9, 4095);
        entryIs(x, 4, 1, 4, 0, 3, 2);
        entryIs(x, 5, 1, 5, 1, 119, 1, 30);
        entryIs(x, 6, 1, 5, 0, 5, 0, 7);
        entryIs(x, 7, 1, 6, 1, 119, 29, -300);
        entryIs(x, 8, 1, 7, 0, 9);
        entryIs(x, 9, 1, 8, 1, 119, 0, 10);
        entryIs(x, 10, 9, 9, 0, 0, 5, 10);
        entryIs(x, 11, 9, 10, 0, 0, 1);
        entryIs(x, 12, 9, 10, 0, 0, -1);
        entryIs(x, 13, 9, 11, 0, 61);
        entryIs(x, 14, 9, 12, 0, 4, 62, 500);
        Due.same("31: no more entries", x.image(15, 0), -1);
        Due.same("31: entry -1", x.image(-1, 0), -1);
        Due.same("31: entry 400", x.image(400, 0), -1);
        Due.same("31: entry HIGH", x.image(HIGH, 0), -1);
        Due.same("31: number -1", x.image(0, -1), -1);
        Due.same("31: number 8", x.image(0, 8), -1);
    }

    /** A registry with an entry of every call. */
    private static TermReckoner everyCall() {
        TermReckoner x = one();
        x.person();
        int sum = x.letter(1, 11) + x.term(0, 0, 2, 30) + x.waits(0, 1, 3, 4, 50, 1);
        x.today(1);
        sum += x.stay(0, 2, 7, 8, 9, 4095) + x.quash(0, 3, 2) + x.month(1, 119, true, 30) + x.month(0, 5, false, 7);
        sum += x.held(1, 119, 29, -300) + x.tear(0, 9) + x.copy(1, 119, 0, 10);
        x.today(9);
        sum += x.off(0, 0, 5, 10) + x.back(0, 0, 1) + x.back(0, 0, -1) + x.grant(0, 61) + x.recall(0, 4, 62, 500);
        Due.same("every call was answered 0", sum, 0);
        return x;
    }

    private static void promise32Take() {
        TermReckoner x = everyCall();
        TermReckoner y = one();
        y.person();
        for (int i = 0; i < 15; i++) {
            int status = y.take(x.image(i, 0), x.image(i, 1), x.image(i, 2), x.image(i, 3), x.image(i, 4),
                    x.image(i, 5), x.image(i, 6), x.image(i, 7));
            Due.same("32: entry " + i, status, 0);
        }
        for (int i = 0; i < 15; i++) {
            for (int j = 0; j < 8; j++) {
                Due.same("32: the same image", y.image(i, j), x.image(i, j));
            }
        }
        for (int place = 0; place < 12; place++) {
            Due.same("32: the same kind", y.kind(0, place), x.kind(0, place));
            Due.same("32: the same end", y.ends(0, place, MOST), x.ends(0, place, MOST));
        }
        Due.same("32: today", y.count(0), 9);
        Due.same("32: today would go back", y.take(8, 0, 0, 7, 0, 0, 0, 0), -1);
        Due.same("32: no such call", y.take(20, 13, 0, 7, 0, 0, 0, 0), -1);
        Due.same("32: call -1", y.take(20, -1, 0, 7, 0, 0, 0, 0), -1);
        Due.same("32: no day", y.take(3600, 0, 0, 7, 0, 0, 0, 0), -1);
        Due.same("32: nothing happened", y.count(0), 9);
        Due.same("32: no entry came", y.count(2), 15);
        Due.same("32: what the call answers", y.take(20, 0, 0, 12, 0, 0, 0, 0), 1);
        Due.same("32: its day was set", y.count(0), 20);
        Due.same("32: the place has something", y.take(20, 1, 0, 0, 0, 1, 0, 0), 2);
        Due.same("32: a letter", y.take(21, 0, 0, 7, 9, 9, 9, 9), 0);
        entryIs(y, 15, 21, 0, 0, 7);
    }

    private static void promise33Count() {
        TermReckoner x = one();
        x.person();
        x.today(7);
        x.letter(0, 0);
        x.today(8);
        Due.same("33: today", x.count(0), 8);
        Due.same("33: persons", x.count(1), 2);
        Due.same("33: entries", x.count(2), 1);
        Due.same("33: the day asked", x.count(3), 8);
        x.as(2);
        Due.same("33: the day asked is 2", x.count(3), 2);
        Due.same("33: today is still 8", x.count(0), 8);
        Due.same("33: what 4", x.count(4), -1);
        Due.same("33: what -1", x.count(-1), -1);
        Due.same("33: what LOW", x.count(LOW), -1);
    }

    private static void quashedAsKnown() {
        TermReckoner x = one();
        x.term(0, 0, 0, 10);
        x.waits(0, 1, 3, 0, 10, 1);
        x.today(30);
        x.quash(0, 2, 0);
        Due.same("as known TODAY", x.begins(0, 1, LEAST), 0);
        Due.same("it is quashed on all days", x.why(0, 0, 0), 6);
        x.as(29);
        Due.same("as known ahead of the quash", x.begins(0, 1, LEAST), 10);
        Due.same("it was not quashed", x.why(0, 0, 0), 0);
        Due.same("nor was there a quash", x.kind(0, 2), 0);
        Due.same("by none", x.by(0, 0, 0), -1);
        Due.same("told is by what is known TODAY", x.quash(0, 3, 0), 5);
        Due.same("also of a rule", x.off(0, 0, 2, 0), 5);
        x.as(30);
        Due.same("as known on its day", x.begins(0, 1, LEAST), 0);
        Due.same("full", x.full(0, LEAST), 10);
    }

    /** All that a day knows is as it was answered on that day, whatever is told later. */
    private static void allAsKnown() {
        TermReckoner x = one();
        x.person();
        x.term(0, 0, 0, 60);
        x.month(1, 0, false, 30);
        x.held(1, 0, 3, 0);
        x.today(10);
        x.off(0, 0, 2, 0);
        x.copy(1, 0, 0, 0);
        x.today(20);
        x.back(0, 0, 4);
        x.held(1, 0, 4, 0);
        x.today(30);
        x.off(0, 0, 3, 0);
        x.copy(1, 0, 0, 0);
        x.tear(0, 1);
        int[] days = {30, 0, 20, 10, 29, 19, 9, 30, 10};
        // Day 0: 60 days. Day 10: day 3 is out: d + 1 + (d - 3) / 2 >= 60 first where d is 41. Day 20: four less, where
        // d is 43. Day 30: days 3 and 4 are out: d - 1 + 1 + (d - 4) / 3 - 4 >= 60 first where d is 49.
        int[] ends = {49, 59, 43, 41, 43, 41, 59, 49, 41};
        for (int i = 0; i < days.length; i++) {
            x.as(days[i]);
            Due.same("its end as known on day " + days[i], x.ends(0, 0, LEAST), ends[i]);
            Due.same("open as known on day " + days[i], x.open(0, 1), days[i] == 30 ? 1 : 0);
        }
    }
}
