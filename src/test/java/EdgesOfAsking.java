/** The document's Promises 18 to 33 (all that is asked, and take), sentence by sentence. */
final class EdgesOfAsking extends EdgesBase {
    private EdgesOfAsking() {
    }

    static void all() {
        kind();
        begins();
        ends();
        counted();
        taken();
        why();
        by();
        full();
        watched();
        open();
        over();
        ring();
        check();
        image();
        take();
        count();
    }

    /** Place 0 a TERM that is QUASHED by 1, 2 a LETTER, 3 a STAY, 4 a CREDIT, 5 a TERM, 6 a LIFE; 7 to 11 nothing. */
    private static TermReckoner some() {
        TermReckoner x = one();
        x.term(0, 0, 0, 10);
        x.quash(0, 1, 0);
        x.letter(0, 2);
        x.stay(0, 3, STAY, 0, 3599, 0);
        x.stay(0, 4, CREDIT, 0, 3599, 0);
        x.term(0, 5, 10, 20);
        x.waits(0, 6, LIFE, 0, 1, set(5));
        return x;
    }

    private static final int[] NO_PERSON = {LOW, -1, 1, 6, HIGH};
    private static final int[] NO_PLACE = {LOW, -1, 12, HIGH};
    private static final int[] NO_DAY = {LOW, -1, 3600, 3601, HIGH};
    /** In some(): the QUASHED order, the QUASH, the LETTER, the STAY, the CREDIT, nothing. */
    private static final int[] NO_ORDER = {0, 1, 2, 3, 4, 7, 11};

    private static void kind() {
        Doc.section("Promise 18");
        Doc.says("What a PLACE has: 0 nothing, 1 a LETTER, 2 to 8; NONE without it.");
        TermReckoner x = one();
        x.letter(0, 1);
        x.term(0, 2, 0, 1);
        x.waits(0, 3, BEHIND, 0, 1, 0);
        x.waits(0, 4, BESIDE, 0, 1, 0);
        x.waits(0, 5, LIFE, 0, 1, 0);
        x.stay(0, 6, STAY, 0, 1, 0);
        x.stay(0, 7, CREDIT, 0, 1, 0);
        x.quash(0, 8, 2);
        for (int place = 0; place < 12; place++) {
            Due.same("place " + place, x.kind(0, place), place <= 8 ? place : 0);
        }
        for (int person : NO_PERSON) {
            Due.same("person " + person, x.kind(person, 0), NONE);
        }
        for (int place : NO_PLACE) {
            Due.same("place " + place, x.kind(0, place), NONE);
        }
        x.grant(0, 3000);
        Due.same("a recall is told", x.recall(0, 9, 3001, 1), 8);
        x.waits(0, 10, BEHIND, 3100, 5, 0);
        x.quash(0, 11, 5);
        Due.same("a recall is told", x.recall(0, 9, 3001, 1), 0);
        Due.same("it has a term", x.kind(0, 9), 2);

        Doc.says("(All that follows is AS KNOWN.)");
        TermReckoner y = one();
        y.term(0, 0, 0, 30);
        y.today(10);
        y.off(0, 0, 2, 0);
        y.tear(0, 1);
        y.month(0, 0, false, 30);
        y.waits(0, 1, LIFE, 5, 1, 0);
        y.stay(0, 2, STAY, 3, 3, 1);
        for (int day : new int[] {9, 10, 9, 10}) {
            boolean on = day == 10;
            y.as(day);
            Due.same("kind on " + day, y.kind(0, 1), on ? 5 : 0);
            Due.same("begins on " + day, y.begins(0, 1, LEAST), on ? 5 : NONE);
            // On day 10: 0 to 2, 4 on: d + 1 + (d - 3) / 2 >= 30 first where d is 21.
            Due.same("ends on " + day, y.ends(0, 0, LEAST), on ? 21 : 29);
            Due.same("counted on " + day, y.counted(0, 0, 9, LEAST), on ? 9 : 10);
            Due.same("taken on " + day, y.taken(0, 0, 9), on ? 4 : 0);
            Due.same("why on " + day, y.why(0, 0, 3), on ? 4 : 0);
            Due.same("by on " + day, y.by(0, 0, 3), on ? 2 : NONE);
            Due.same("full on " + day, y.full(0, LEAST), on ? NONE : 30);
            Due.same("watched on " + day, y.watched(0, 500, LEAST), on ? 15 : 14);
            Due.same("open on " + day, y.open(0, 1), on ? 1 : 0);
            Due.same("check on " + day, y.check(0, 0, 0, (1 << 30) - 1), on ? 3 : NONE);
        }
        y.quash(0, 3, 1);
        y.today(40);
        Due.same("over on 10", y.over(0), 0);
        y.as(NONE);
        Due.same("over on 40", y.over(0), 8);
        y.as(9);
        Due.same("over on 9", y.over(0), 0);
    }

    private static void begins() {
        Doc.section("Promise 19");
        Doc.says("BEGIN of an ORDER that RUNS (most: MOST, else LEAST).");
        TermReckoner x = some();
        Due.same("of a term", x.begins(0, 5, LEAST), 10);
        Due.same("of a life", x.begins(0, 6, LEAST), 30);
        x.tear(0, 0);
        // MOST: 20 days from 30 on.
        Due.same("most", x.begins(0, 6, MOST), 50);
        Due.same("least", x.begins(0, 6, LEAST), 30);

        Doc.says("NONE: never, QUASHED, or no such ORDER.");
        x.waits(0, 7, BEHIND, 0, 1, set(6));
        Due.same("never", x.begins(0, 7, LEAST), NONE);
        x.quash(0, 8, 7);
        for (int place : new int[] {0, 1, 2, 3, 4, 7, 8, 9, 11, -1, 12, LOW, HIGH}) {
            Due.same("place " + place, x.begins(0, place, LEAST), NONE);
            Due.same("place " + place, x.begins(0, place, MOST), NONE);
        }
        for (int person : NO_PERSON) {
            Due.same("person " + person, x.begins(person, 5, LEAST), NONE);
        }
        TermReckoner y = one();
        y.term(0, 0, 0, 30);
        y.waits(0, 1, BEHIND, 0, 1, set(0));
        for (int month = 1; month < 120; month++) {
            y.tear(0, month);
        }
        y.stay(0, 2, STAY, 29, 29, set(0));
        Due.same("at least on day 31", y.begins(0, 1, LEAST), 31);
        Due.same("at most never", y.begins(0, 1, MOST), NONE);
    }

    private static void ends() {
        Doc.section("Promise 20");
        Doc.says("END of it likewise.");
        TermReckoner x = some();
        x.term(0, 7, 3590, 11);
        x.tear(0, 0);
        Due.same("least", x.ends(0, 5, LEAST), 29);
        Due.same("most", x.ends(0, 5, MOST), 49);
        Due.same("a life never", x.ends(0, 6, LEAST), NONE);
        Due.same("never", x.ends(0, 7, LEAST), NONE);
        for (int place : new int[] {0, 1, 2, 3, 4, 8, 11, -1, 12, LOW, HIGH}) {
            Due.same("place " + place, x.ends(0, place, LEAST), NONE);
            Due.same("place " + place, x.ends(0, place, MOST), NONE);
        }
        for (int person : NO_PERSON) {
            Due.same("person " + person, x.ends(person, 5, LEAST), NONE);
        }
        x.stay(0, 8, CREDIT, 3589, 3589, set(7));
        Due.same("on the last day", x.ends(0, 7, LEAST), 3599);
    }

    private static void counted() {
        Doc.section("Promise 21");
        Doc.says("How many days COUNT for it up to a day (with it);");
        TermReckoner x = some();
        int[] days = {0, 9, 10, 11, 28, 29, 30, 31, 3599};
        int[] dues = {0, 0, 1, 2, 19, 20, 20, 20, 20};
        int[] ofLife = {0, 0, 0, 0, 0, 0, 1, 2, 3570};
        for (int i = 0; i < days.length; i++) {
            Due.same("up to day " + days[i], x.counted(0, 5, days[i], LEAST), dues[i]);
            Due.same("of a life up to day " + days[i], x.counted(0, 6, days[i], LEAST), ofLife[i]);
        }
        x.tear(0, 0);
        Due.same("most", x.counted(0, 5, 30, MOST), 1);
        x.stay(0, 7, CREDIT, 0, 0, set(5));
        Due.same("day 0, by credit", x.counted(0, 5, 0, LEAST), 1);

        Doc.says("NONE without such, or of no day.");
        for (int place : NO_ORDER) {
            if (place != 7) {
                Due.same("place " + place, x.counted(0, place, 5, LEAST), NONE);
            }
        }
        for (int place : NO_PLACE) {
            Due.same("place " + place, x.counted(0, place, 5, MOST), NONE);
        }
        for (int person : NO_PERSON) {
            Due.same("person " + person, x.counted(person, 5, 5, LEAST), NONE);
        }
        for (int day : NO_DAY) {
            Due.same("day " + day, x.counted(0, 5, day, LEAST), NONE);
            Due.same("day " + day + ", most", x.counted(0, 6, day, MOST), NONE);
        }
    }

    private static void taken() {
        Doc.section("Promise 22");
        Doc.says("TAKEN up to a day (LEAST), before what is GIVEN;");
        TermReckoner x = some();
        Due.same("without a rule", x.taken(0, 5, 3599), 0);
        x.off(0, 5, 3, 0);
        int[] days = {0, 9, 10, 11, 12, 14, 15, 18, 23, 24, 25, 3599};
        // d + d / 3 >= 20 first where d is 15: its end is day 24.
        int[] dues = {0, 0, 0, 0, 1, 1, 2, 3, 4, 5, 5, 5};
        for (int i = 0; i < days.length; i++) {
            Due.same("up to day " + days[i], x.taken(0, 5, days[i]), dues[i]);
        }
        x.today(15);
        x.back(0, 5, 2);
        Due.same("two given", x.taken(0, 5, 15), 2);
        // d + d / 3 - 2 >= 20 first where d is 17: its end is day 26.
        Due.same("up to its end then", x.taken(0, 5, 3599), 5);
        x.tear(0, 0);
        Due.same("least", x.taken(0, 5, 15), 2);
        Due.same("a life has none", x.taken(0, 6, 3599), 0);

        Doc.says("NONE likewise.");
        for (int place : NO_ORDER) {
            Due.same("place " + place, x.taken(0, place, 5), NONE);
        }
        for (int place : NO_PLACE) {
            Due.same("place " + place, x.taken(0, place, 5), NONE);
        }
        for (int person : NO_PERSON) {
            Due.same("person " + person, x.taken(person, 5, 5), NONE);
        }
        for (int day : NO_DAY) {
            Due.same("day " + day, x.taken(0, 5, day), NONE);
        }
    }

    private static void why() {
        Doc.section("Promise 23");
        Doc.says("The REASON of a day for a PLACE;");
        TermReckoner x = some();
        int[] dues = {6, 7, 7, 7, 7, 2, 2, 7, 7, 7, 7, 7};
        for (int place = 0; place < 12; place++) {
            Due.same("day 0 for place " + place, x.why(0, place, 0), dues[place]);
        }
        Due.same("day 3599 for a life", x.why(0, 6, 3599), 0);
        Due.same("day 3599 for a term", x.why(0, 5, 3599), 3);

        Doc.says("NONE: no such PERSON, PLACE, day.");
        for (int person : NO_PERSON) {
            Due.same("person " + person, x.why(person, 5, 15), NONE);
        }
        for (int place : NO_PLACE) {
            Due.same("place " + place, x.why(0, place, 15), NONE);
        }
        for (int day : NO_DAY) {
            Due.same("day " + day + " for a term", x.why(0, 5, day), NONE);
            Due.same("day " + day + " for nothing", x.why(0, 11, day), NONE);
            Due.same("day " + day + " for a quashed one", x.why(0, 0, day), NONE);
        }
    }

    private static void by() {
        Doc.section("Promise 24");
        Doc.says("BY of it;");
        TermReckoner x = some();
        x.stay(0, 10, STAY, 0, 12, set(5));
        x.stay(0, 7, CREDIT, 12, 13, set(5));
        Due.same("the quash", x.by(0, 0, 0), 1);
        Due.same("the stay", x.by(0, 5, 12), 10);
        Due.same("the credit", x.by(0, 5, 13), 7);

        Doc.says("NONE.");
        Due.same("as held", x.by(0, 5, 14), NONE);
        for (int person : NO_PERSON) {
            Due.same("person " + person, x.by(person, 0, 0), NONE);
        }
        for (int place : NO_PLACE) {
            Due.same("place " + place, x.by(0, place, 0), NONE);
        }
        for (int day : NO_DAY) {
            Due.same("day " + day, x.by(0, 0, day), NONE);
        }
        for (int place : NO_ORDER) {
            if (place != 0) {
                Due.same("place " + place, x.by(0, place, 0), NONE);
            }
        }
    }

    private static void full() {
        Doc.section("Promise 25");
        Doc.says("FULL; NONE: never, or no such PERSON.");
        TermReckoner x = some();
        Due.same("never", x.full(0, LEAST), NONE);
        x.quash(0, 7, 6);
        Due.same("full", x.full(0, LEAST), 30);
        x.tear(0, 0);
        Due.same("least", x.full(0, LEAST), 30);
        Due.same("most", x.full(0, MOST), 50);
        for (int person : NO_PERSON) {
            Due.same("person " + person, x.full(person, LEAST), NONE);
            Due.same("person " + person + ", most", x.full(person, MOST), NONE);
        }
        x.person();
        Due.same("the next one without an order", x.full(1, MOST), 0);
        x.term(1, 0, 3599, 1);
        Due.same("3600", x.full(1, MOST), 3600);
        x.tear(1, 119);
        Due.same("3600 at least", x.full(1, LEAST), 3600);
        Due.same("never at most", x.full(1, MOST), NONE);
    }

    private static void watched() {
        Doc.section("Promise 26");
        Doc.says("WATCHED by thousandths (0 to 1000) likewise.");
        TermReckoner x = some();
        Due.same("by 0", x.watched(0, 0, LEAST), 30);
        Due.same("by 1000", x.watched(0, 1000, LEAST), 30);
        x.quash(0, 7, 6);
        Due.same("by 0", x.watched(0, 0, LEAST), 0);
        Due.same("by 1", x.watched(0, 1, LEAST), 10);
        Due.same("by 999", x.watched(0, 999, LEAST), 29);
        Due.same("by 1000", x.watched(0, 1000, LEAST), 29);
        x.tear(0, 0);
        Due.same("most", x.watched(0, 1000, MOST), 49);
        for (int part : new int[] {LOW, -1000, -1, 1001, 2000, HIGH}) {
            Due.same("by " + part, x.watched(0, part, LEAST), NONE);
        }
        for (int person : NO_PERSON) {
            Due.same("person " + person, x.watched(person, 500, LEAST), NONE);
        }
        x.person();
        Due.same("the next one without an order", x.watched(1, 1000, LEAST), 0);
        Due.same("also there not by 1001", x.watched(1, 1001, LEAST), NONE);
        x.term(1, 0, 3599, 2);
        Due.same("half on the last day", x.watched(1, 500, LEAST), 3599);
        Due.same("never", x.watched(1, 501, LEAST), NONE);
        x.tear(1, 119);
        Due.same("never at most", x.watched(1, 500, MOST), NONE);
    }

    private static void open() {
        Doc.section("Promise 27");
        Doc.says("Whether a MONTH is OPEN: 1, 0; NONE without it.");
        TermReckoner x = one();
        x.month(0, 0, false, 29);
        x.month(0, 1, true, 30);
        x.tear(0, 119);
        x.month(0, 118, false, 0);
        int[] months = {LOW, -30, -1, 0, 1, 2, 117, 118, 119, 120, 121, HIGH};
        int[] dues = {-1, -1, -1, 1, 0, 0, 0, 1, 1, -1, -1, -1};
        for (int i = 0; i < months.length; i++) {
            Due.same("month " + months[i], x.open(0, months[i]), dues[i]);
        }
        for (int person : NO_PERSON) {
            Due.same("person " + person, x.open(person, 0), NONE);
        }
        x.copy(0, 1, 0, 119);
        Due.same("a whole row is copied onto it", x.open(0, 119), 0);
        x.copy(0, 0, 0, 1);
        Due.same("a short row is copied onto it", x.open(0, 1), 1);
    }

    private static void over() {
        Doc.section("Promise 28");
        Doc.says("OVER; NONE without the PERSON.");
        TermReckoner x = one();
        x.term(0, 0, 0, 10);
        x.month(0, 0, false, 30);
        x.today(12);
        Due.same("days 10, 11, 12", x.over(0), 3);
        for (int person : NO_PERSON) {
            Due.same("person " + person, x.over(person), NONE);
        }
        x.person();
        Due.same("the next one without a row", x.over(1), 0);
    }

    private static void ring() {
        Doc.section("Promise 29");
        Doc.says("The i-th PLACE (the first 0) of the RING of the latest call that was answered 4,");
        TermReckoner x = one();
        for (int i : new int[] {LOW, -1, 0, 1, HIGH}) {
            Due.same("ring " + i + " ahead of any", x.ring(i), NONE);
        }
        x.waits(0, 3, BEHIND, 0, 1, set(3));
        ringIs("one", x, 3);
        x.waits(0, 0, BEHIND, 0, 1, set(5));
        x.waits(0, 5, BEHIND, 0, 1, set(0));
        ringIs("the latest", x, 0, 5);
        Due.same("answered 0", x.letter(0, 1), 0);
        Due.same("answered 1", x.waits(0, 12, BEHIND, 0, 1, 0), 1);
        Due.same("answered 2", x.waits(0, 0, BEHIND, 0, 1, set(0)), 2);
        Due.same("answered 3", x.waits(0, 7, BEHIND, 0, 0, set(7)), 3);
        Due.same("answered 5", x.off(0, 1, 2, 0), 5);
        ringIs("other answers leave it", x, 0, 5);
        x.today(9);
        x.as(3);
        ringIs("on each day", x, 0, 5);
        x.waits(0, 5, BEHIND, 0, 1, 0);
        ringIs("also when its place has come to have another order", x, 0, 5);
        x.person();
        x.waits(1, 9, BEHIND, 0, 1, set(9));
        ringIs("of another person", x, 9);
        x.take(9, 2, 1, 8, 3, 0, 1, set(8));
        ringIs("of take", x, 8);
        fill(x, 400);
        x.waits(0, 11, BEHIND, 0, 1, set(11));
        ringIs("of a call behind 400 entries", x, 11);

        Doc.says("from the least one on, then along its SETS");
        TermReckoner y = one();
        y.waits(0, 8, BEHIND, 0, 1, set(2));
        y.waits(0, 2, BESIDE, 0, 1, set(11));
        y.waits(0, 11, LIFE, 0, 1, set(5));
        y.waits(0, 5, BEHIND, 0, 1, set(8));
        ringIs("of four", y, 2, 11, 5, 8);
        TermReckoner twelve = one();
        for (int i = 0; i < 11; i++) {
            twelve.waits(0, 11 - i, BEHIND, 0, 1, set(10 - i));
        }
        twelve.waits(0, 0, BEHIND, 0, 1, set(11));
        ringIs("of twelve", twelve, 0, 11, 10, 9, 8, 7, 6, 5, 4, 3, 2, 1);

        Doc.says("(of several RINGS the one of the fewest ORDERS,");
        TermReckoner few = one();
        few.waits(0, 0, BEHIND, 0, 1, set(1));
        few.waits(0, 1, BEHIND, 0, 1, set(11));
        few.waits(0, 10, BEHIND, 0, 1, set(11));
        few.waits(0, 11, BEHIND, 0, 1, set(0, 10));
        ringIs("two, though others have a lesser place", few, 10, 11);
        few.waits(0, 11, BEHIND, 0, 1, set(0, 10, 11));
        ringIs("one, though others have lesser places", few, 11);
        few.waits(0, 11, BEHIND, 0, 1, set(0));
        ringIs("three, where there is no other", few, 0, 1, 11);

        Doc.says("then of the least PLACES one by one);");
        TermReckoner least = one();
        least.waits(0, 4, BEHIND, 0, 1, set(9));
        least.waits(0, 6, BEHIND, 0, 1, set(9));
        least.waits(0, 9, BEHIND, 0, 1, set(6, 4));
        ringIs("of two of two the least first one", least, 4, 9);
        TermReckoner second = one();
        second.waits(0, 0, BEHIND, 0, 1, set(7, 3));
        second.waits(0, 7, BEHIND, 0, 1, set(9));
        second.waits(0, 3, BEHIND, 0, 1, set(9));
        second.waits(0, 9, BEHIND, 0, 1, set(0));
        ringIs("the least second one", second, 0, 3, 9);
        TermReckoner third = one();
        third.waits(0, 0, BEHIND, 0, 1, set(10));
        third.waits(0, 10, BEHIND, 0, 1, set(8, 2));
        third.waits(0, 8, BEHIND, 0, 1, set(5));
        third.waits(0, 2, BEHIND, 0, 1, set(5));
        third.waits(0, 5, BEHIND, 0, 1, set(0));
        ringIs("the least third one", third, 0, 10, 2, 5);
        TermReckoner turned = one();
        turned.waits(0, 1, BEHIND, 0, 1, set(5));
        turned.waits(0, 5, BEHIND, 0, 1, set(9));
        turned.waits(0, 0, BEHIND, 0, 1, set(9));
        turned.waits(0, 8, BEHIND, 0, 1, set(0));
        turned.waits(0, 9, BEHIND, 0, 1, set(1, 8));
        ringIs("0, 9, 8 is less than 1, 5, 9, though 1 is named ahead of 8", turned, 0, 9, 8);
        TermReckoner detour = one();
        detour.waits(0, 1, BEHIND, 0, 1, set(2, 6));
        detour.waits(0, 2, BEHIND, 0, 1, set(3));
        detour.waits(0, 3, BEHIND, 0, 1, set(7));
        detour.waits(0, 6, BEHIND, 0, 1, set(7));
        detour.waits(0, 7, BEHIND, 0, 1, set(1));
        ringIs("the lesser second one is in a longer ring", detour, 1, 6, 7);

        Doc.says("NONE.");
        for (int i : new int[] {LOW, -1, 3, 4, 11, 12, 13, HIGH}) {
            Due.same("place " + i + " of three", detour.ring(i), NONE);
        }
        for (int i : new int[] {-1, 12, 13}) {
            Due.same("place " + i + " of twelve", twelve.ring(i), NONE);
        }
    }

    private static void ringIs(String what, TermReckoner x, int... places) {
        for (int i = 0; i < places.length; i++) {
            Due.same(what + ", its place " + i, x.ring(i), places[i]);
        }
        Due.same(what + ", behind its last", x.ring(places.length), NONE);
        Due.same(what + ", ahead of its first", x.ring(-1), NONE);
    }

    private static void check() {
        Doc.section("Promise 30");
        Doc.says("A reckoning is told: from a day on, for each of 32 days a bit (1: it COUNTS for the ORDER, LEAST; the lowest"
                + " bit the first day; bits of days that are none: 0):");
        TermReckoner x = one();
        x.term(0, 0, 5, 20);
        x.tear(0, 0);
        int bits = 0xFFFFF << 5;
        Due.same("5 to 24, least", x.check(0, 0, 0, bits), NONE);
        Due.same("from day 5", x.check(0, 0, 5, 0xFFFFF), NONE);
        Due.same("from day 24", x.check(0, 0, 24, 1), NONE);
        Due.same("from day 25", x.check(0, 0, 25, 0), NONE);
        x.waits(0, 1, LIFE, 0, 1, 0);
        for (int day : new int[] {0, 17, 29, 30, 3566, 3567, 3568}) {
            Due.same("all bits from day " + day, x.check(0, 1, day, -1), NONE);
        }
        for (int day = 3569; day < 3600; day++) {
            int due = (1 << 3600 - day) - 1;
            Due.same("the last days from day " + day, x.check(0, 1, day, due), NONE);
            Due.same("one bit more from day " + day, x.check(0, 1, day, due | 1 << 3600 - day), 3600);
        }

        Doc.says("NONE: it is right; else the first day that is other (3600 and on of days that are none).");
        Due.same("right", x.check(0, 0, 0, bits), NONE);
        for (int i = 0; i < 32; i++) {
            Due.same("other on day " + i, x.check(0, 0, 0, bits ^ 1 << i), i);
            Due.same("other from day " + i + " on", x.check(0, 0, 0, bits ^ -1 << i), i);
        }
        Due.same("other on days 30 and 7", x.check(0, 0, 0, bits ^ 1 << 30 ^ 1 << 7), 7);
        for (int i = 1; i < 32; i++) {
            Due.same("day " + (3599 + i), x.check(0, 1, 3599, 1 | 1 << i), 3599 + i);
        }
        Due.same("a day ahead of those that are none", x.check(0, 1, 3598, ~2), 3599);
        Due.same("all bits from day 3599", x.check(0, 1, 3599, -1), 3600);
        Due.same("it is no entry", x.count(2), 3);

        Doc.says("-2: no such PERSON, PLACE, day, or no ORDER that RUNS there (or it is QUASHED).");
        TermReckoner y = some();
        for (int person : NO_PERSON) {
            Due.same("person " + person, y.check(person, 5, 0, 0), -2);
        }
        for (int place : NO_PLACE) {
            Due.same("place " + place, y.check(0, place, 0, 0), -2);
        }
        for (int day : NO_DAY) {
            Due.same("day " + day, y.check(0, 5, day, 0), -2);
        }
        for (int place : NO_ORDER) {
            Due.same("place " + place, y.check(0, place, 0, 0), -2);
        }
        Due.same("there is one", y.check(0, 5, 3599, 0), NONE);
    }

    /** A registry with an ENTRY of every call, each with arguments of its own. */
    private static TermReckoner everyCall() {
        TermReckoner x = of(2);
        int sum = x.letter(1, 11) + x.term(0, 0, 2, 30) + x.waits(0, 1, BEHIND, 4, 50, 2049);
        x.today(1);
        sum += x.stay(0, 2, CREDIT, 8, 9, ALL) + x.quash(0, 3, 2) + x.month(1, 119, true, 30) + x.month(0, 5, false, 7);
        sum += x.held(1, 119, 29, -300) + x.tear(0, 9) + x.copy(1, 119, 0, 10) + x.off(0, 0, 5, 10);
        x.today(9);
        sum += x.back(0, 0, 1) + x.back(0, 0, -1) + x.grant(0, 61) + x.recall(0, 4, 62, 500);
        Due.same("each was told", sum, 0);
        return x;
    }

    private static final int[][] EVERY_CALL = {{0, 0, 1, 11, 0, 0, 0, 0}, {0, 1, 0, 0, 2, 30, 0, 0},
        {0, 2, 0, 1, 3, 4, 50, 2049}, {1, 3, 0, 2, 7, 8, 9, 4095}, {1, 4, 0, 3, 2, 0, 0, 0}, {1, 5, 1, 119, 1, 30, 0, 0},
        {1, 5, 0, 5, 0, 7, 0, 0}, {1, 6, 1, 119, 29, -300, 0, 0}, {1, 7, 0, 9, 0, 0, 0, 0}, {1, 8, 1, 119, 0, 10, 0, 0},
        {1, 9, 0, 0, 5, 10, 0, 0}, {9, 10, 0, 0, 1, 0, 0, 0}, {9, 10, 0, 0, -1, 0, 0, 0}, {9, 11, 0, 61, 0, 0, 0, 0},
        {9, 12, 0, 4, 62, 500, 0, 0}};

    private static void imagesAre(String what, TermReckoner x, int[][] dues) {
        for (int i = 0; i < dues.length; i++) {
            for (int j = 0; j < 8; j++) {
                Due.same(what + " " + i + ", number " + j, x.image(i, j), dues[i][j]);
            }
        }
    }

    private static void image() {
        Doc.section("Promise 31");
        Doc.says("ENTRY i (the first 0) as numbers: j 0: TODAY then, 1: which call (0 letter, 1 term, 2 waits, 3 stay, 4 quash,"
                + " 5 month, 6 held, 7 tear, 8 copy, 9 off, 10 back, 11 grant, 12 recall), 2 and on: its arguments in order"
                + " (wide 1, 0; of copy, recall too), 0 behind.");
        TermReckoner x = everyCall();
        imagesAre("entry", x, EVERY_CALL);

        Doc.says("NONE without it, or for j not 0 to 7.");
        for (int i : new int[] {LOW, -1, 15, 16, 399, 400, 401, HIGH}) {
            Due.same("entry " + i, x.image(i, 0), NONE);
            Due.same("entry " + i + ", number 7", x.image(i, 7), NONE);
        }
        for (int j : new int[] {LOW, -1, 8, 9, HIGH}) {
            Due.same("number " + j, x.image(0, j), NONE);
        }
        Due.same("the first one's last number", x.image(0, 7), 0);
        TermReckoner y = one();
        Due.same("no entry at all", y.image(0, 0), NONE);
        Due.same("refused", y.letter(0, 12), 1);
        Due.same("what is refused is none", y.image(0, 0), NONE);
        fill(y, 400);
        Due.same("the last one", y.image(399, 1), 7);
        Due.same("behind the last one", y.image(400, 1), NONE);
    }

    private static void take() {
        Doc.section("Promise 32");
        Doc.says("An ENTRY is told to another registry as image() tells it, its TODAY first set, if that is not ahead: what that"
                + " call answers;");
        TermReckoner x = everyCall();
        TermReckoner y = of(2);
        for (int i = 0; i < EVERY_CALL.length; i++) {
            int status = y.take(x.image(i, 0), x.image(i, 1), x.image(i, 2), x.image(i, 3), x.image(i, 4),
                    x.image(i, 5), x.image(i, 6), x.image(i, 7));
            Due.same("entry " + i, status, 0);
            Due.same("today", y.count(0), EVERY_CALL[i][0]);
        }
        imagesAre("taken", y, EVERY_CALL);
        for (int place = 0; place < 12; place++) {
            Due.same("what is in place " + place, y.kind(0, place), x.kind(0, place));
            Due.same("its end", y.ends(0, place, MOST), x.ends(0, place, MOST));
        }
        Due.same("TODAY itself is not ahead", y.take(9, 0, 1, 0, 0, 0, 0, 0), 0);
        int[] dues = {1, 2, 3, 4, 5, 6, 8};
        int[] answers = {y.take(10, 0, 2, 0, 0, 0, 0, 0), y.take(11, 1, 0, 0, 0, 1, 0, 0), y.take(12, 5, 0, 0, 0, 31, 0, 0),
            y.take(13, 2, 0, 7, 3, 0, 1, 128), y.take(14, 9, 0, 2, 2, 0, 0, 0), y.take(15, 6, 0, 0, 0, 0, 0, 0),
            y.take(16, 11, 0, 0, 0, 0, 0, 0)};
        for (int i = 0; i < dues.length; i++) {
            Due.same("what that call answers", answers[i], dues[i]);
        }
        Due.same("TODAY is set though the call is refused", y.count(0), 16);
        Due.same("a later day of this registry", y.image(15, 0), 9);
        fill(y, 400);
        Due.same("behind 400 entries", y.take(17, 7, 0, 0, 0, 0, 0, 0), 7);
        Due.same("TODAY is set", y.count(0), 17);
        TermReckoner wide = one();
        Due.same("a row of bytes", wide.take(0, 5, 0, 0, 0, 30, 0, 0), 0);
        Due.same("a row of shorts", wide.take(0, 5, 0, 1, 1, 30, 0, 0), 0);
        Due.same("a byte", wide.held(0, 0, 0, 128), 3);
        Due.same("a short", wide.held(0, 1, 0, 128), 0);
        Due.same("on the last day", wide.take(3599, 0, 0, 0, 0, 0, 0, 0), 0);
        Due.same("what is behind its arguments is none of it", wide.take(3599, 0, 0, 1, 7, -7, HIGH, LOW), 0);
        Due.same("nor told", wide.image(3, 4) + wide.image(3, 5) + wide.image(3, 6) + wide.image(3, 7), 0);

        Doc.says("NONE, and nothing happens: TODAY would go back, or there is no such call.");
        for (int day : new int[] {LOW, -1, 0, 8}) {
            refused("on day " + day, NONE, EdgesOfAsking::tellOnDay9, z -> z.take(day, 0, 0, 7, 0, 0, 0, 0));
        }
        for (int day : new int[] {3600, 3601, HIGH}) {
            refused("on day " + day + ", which is none", NONE, EdgesOfAsking::tellOnDay9,
                    z -> z.take(day, 0, 0, 7, 0, 0, 0, 0));
        }
        for (int call : new int[] {LOW, -1, 13, 14, HIGH}) {
            refused("call " + call, NONE, EdgesOfAsking::tellOnDay9, z -> z.take(9, call, 0, 7, 2, 2, 1, 0));
            refused("call " + call + " on a later day", NONE, EdgesOfAsking::tellOnDay9,
                    z -> z.take(10, call, 0, 7, 2, 2, 1, 0));
        }
    }

    private static void tellOnDay9(TermReckoner x) {
        x.person();
        x.term(0, 0, 0, 20);
        x.today(9);
        x.letter(0, 1);
    }

    private static void count() {
        Doc.section("Promise 33");
        Doc.says("What 0: TODAY, 1: PERSONS, 2: ENTRIES, 3: the day AS KNOWN on which is asked.");
        TermReckoner x = of(2);
        x.today(7);
        x.letter(0, 0);
        x.letter(0, 1);
        x.letter(0, 2);
        x.today(8);
        x.as(5);
        Due.same("TODAY", x.count(0), 8);
        Due.same("PERSONS", x.count(1), 2);
        Due.same("ENTRIES, also those that day 5 does not know", x.count(2), 3);
        Due.same("the day asked", x.count(3), 5);
        Due.same("an entry that day 5 does not know", x.image(2, 3), 2);
        x.as(NONE);
        Due.same("none is set: TODAY", x.count(3), 8);

        Doc.says("NONE for another what.");
        for (int what : new int[] {LOW, -2, -1, 4, 5, HIGH}) {
            Due.same("what " + what, x.count(what), NONE);
        }
    }
}
