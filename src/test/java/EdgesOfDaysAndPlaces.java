/** The document's Terms I (days, months, persons, entries) and II (places, sets, orders, rings), sentence by sentence. */
final class EdgesOfDaysAndPlaces extends EdgesBase {
    private EdgesOfDaysAndPlaces() {
    }

    static void all() {
        Doc.section("What it is");
        Doc.namesNoEdge("A registry that reckons until when a person is held, by every order that a court has made: orders of"
                + " kinds that run by themselves, behind others, beside others, without end; stays, credits, quashings,"
                + " days taken off and given back, releases, recalls; rows of days held that may be short or torn; each"
                + " day's reason, and all of it as it was known on any day.");
        lastCall();
        Doc.section("I");
        days();
        months();
        today();
        persons();
        places();
        entries();
        known();
        asked();
        thousandths();
        Doc.section("II");
        somethingInAPlace();
        sets();
        setsOfNothing();
        orders();
        stays();
        quashes();
        beginOfTerm();
        beginBehind();
        beginBeside();
        quashedAreNone();
        beginBehind3599();
        rings();
    }

    private static void lastCall() {
        Doc.says("An object is used for at most 512 calls after it has been made; what later calls answer is free.");
        TermReckoner x = one();
        for (int i = 0; i < 399; i++) {
            x.tear(0, i % 120);
        }
        for (int i = 0; i < 109; i++) {
            x.today(i);
        }
        Due.same("call 510, the last entry", x.term(0, 11, 0, 30), 0);
        Due.same("call 511", x.ends(0, 11, LEAST), 29);
        Due.same("call 512", x.count(2), 400);
    }

    private static void days() {
        Doc.says("DAYS are 0 to 3599");
        for (int day : new int[] {LOW, -3600, -2, -1, 3600, 3601, HIGH}) {
            TermReckoner x = one();
            x.term(0, 0, 0, 10);
            x.quash(0, 1, 0);
            x.term(0, 2, 0, 10);
            x.grant(0, 5);
            Due.same("today " + day, x.today(day), false);
            Due.same("term from " + day, x.term(0, 3, day, 1), 3);
            Due.same("waits from " + day, x.waits(0, 3, BEHIND, day, 1, 0), 3);
            Due.same("stay on " + day, x.stay(0, 3, STAY, day, day, 0), 3);
            Due.same("stay from " + Math.min(day, 0), x.stay(0, 3, STAY, Math.min(day, 0), Math.max(day, 0), 0), 3);
            Due.same("grant on " + day, x.grant(0, day), 3);
            Due.same("recall from " + day, x.recall(0, 3, day, 500), 3);
            Due.same("counted up to " + day, x.counted(0, 2, day, LEAST), NONE);
            Due.same("taken up to " + day, x.taken(0, 2, day), NONE);
            Due.same("why on " + day, x.why(0, 2, day), NONE);
            Due.same("by on " + day, x.by(0, 0, day), NONE);
            Due.same("check from " + day, x.check(0, 2, day, 0), -2);
            Due.same("take on " + day, x.take(day, 0, 0, 3, 0, 0, 0, 0), NONE);
            Due.same("as " + day, x.as(day), day == NONE ? 1 : NONE);
            Due.same("entries", x.count(2), 4);
            Due.same("today is", x.count(0), 0);
        }
        for (int day : new int[] {0, 1, 3598, 3599}) {
            TermReckoner x = one();
            x.term(0, 0, 0, 3600);
            x.quash(0, 1, 0);
            x.waits(0, 2, LIFE, 0, 1, 0);
            Due.same("term from " + day, x.term(0, 3, day, 1), 0);
            Due.same("its end", x.ends(0, 3, LEAST), day);
            Due.same("waits from " + day, x.waits(0, 4, BEHIND, day, 1, 0), 0);
            Due.same("its begin", x.begins(0, 4, LEAST), day);
            Due.same("counted up to " + day, x.counted(0, 2, day, LEAST), day + 1);
            Due.same("taken up to " + day, x.taken(0, 2, day), 0);
            Due.same("why on " + day, x.why(0, 2, day), 0);
            Due.same("by on " + day, x.by(0, 0, day), 1);
            Due.same("check from " + day, x.check(0, 2, day, day < 3 ? -1 : day == 3598 ? 3 : 1), NONE);
            Due.same("stay on " + day, x.stay(0, 5, STAY, day, day, set(2)), 0);
            Due.same("its day", x.why(0, 2, day), 4);
            Due.same("stay of all days", x.stay(0, 6, CREDIT, 0, 3599, 0), 0);
            Due.same("recall from " + day + " is not of no day", x.recall(0, 7, day, 500), 8);
            Due.same("today " + day, x.today(day), true);
            Due.same("as " + day, x.as(day), 1);
            Due.same("take on " + day, x.take(day, 0, 0, 9, 0, 0, 0, 0), 0);
        }
        TermReckoner y = one();
        Due.same("grant on day 0", y.grant(0, 0), 0);
        Due.same("grant on day 3599", y.grant(0, 3599), 0);
    }

    private static void months() {
        Doc.says("in MONTHS of 30 (0 to 119).");
        for (int month : new int[] {LOW, -30, -1, 120, 121, 3599, HIGH}) {
            TermReckoner x = one();
            x.month(0, 0, false, 30);
            Due.same("month " + month, x.month(0, month, false, 30), 1);
            Due.same("held in month " + month, x.held(0, month, 0, 0), 1);
            Due.same("tear of month " + month, x.tear(0, month), 1);
            Due.same("copy of month " + month, x.copy(0, month, 0, 0), 1);
            Due.same("copy to month " + month, x.copy(0, 0, 0, month), 1);
            Due.same("open of month " + month, x.open(0, month), NONE);
            Due.same("entries", x.count(2), 1);
        }
        for (int month : new int[] {0, 1, 118, 119}) {
            TermReckoner x = one();
            Due.same("month " + month, x.month(0, month, false, 30), 0);
            Due.same("held in month " + month, x.held(0, month, 0, 0), 0);
            Due.same("copy of month " + month, x.copy(0, month, 0, 60), 0);
            Due.same("copy to month " + month, x.copy(0, 60, 0, month), 0);
            Due.same("tear of month " + month, x.tear(0, month), 0);
            Due.same("open of month " + month, x.open(0, month), 1);
        }
        for (int month : new int[] {0, 1, 60, 119}) {
            for (int k : new int[] {0, 1, 28, 29}) {
                TermReckoner x = one();
                x.waits(0, 0, LIFE, 0, 1, 0);
                x.month(0, month, false, 30);
                x.held(0, month, k, 0);
                int day = 30 * month + k;
                Due.same("day " + k + " of month " + month + " is not held", x.why(0, 0, day), 5);
                Due.same("it is the only one", x.counted(0, 0, 3599, LEAST), 3599);
                Due.same("up to the day ahead of it all count", day == 0 ? 0 : x.counted(0, 0, day - 1, LEAST), day);
                Due.same("the day itself does not", x.counted(0, 0, day, LEAST), day);
            }
        }
    }

    private static void today() {
        Doc.says("TODAY is a day, 0 at first.");
        TermReckoner x = one();
        Due.same("today of a new object", x.count(0), 0);
        Due.same("as day 1", x.as(1), NONE);
        Due.same("as day 0", x.as(0), 1);
        x.letter(0, 0);
        Due.same("the day of its first entry", x.image(0, 0), 0);
    }

    private static void persons() {
        Doc.says("PERSONS, 6 at most (they are no ENTRIES)");
        TermReckoner x = new TermReckoner();
        for (int i = 0; i < 6; i++) {
            Due.same("ahead of person " + i + " a letter for it", x.letter(i, 0), 1);
            Due.same("person", x.person(), i);
            Due.same("persons", x.count(1), i + 1);
            Due.same("a letter for person " + i, x.letter(i, 0), 0);
        }
        for (int i = 0; i < 3; i++) {
            Due.same("one more", x.person(), NONE);
        }
        Due.same("still six", x.count(1), 6);
        Due.same("entries are the letters alone", x.count(2), 6);
        for (int person : new int[] {LOW, -1, 6, 7, HIGH}) {
            askNobody(x, person);
        }
        Due.same("still the letters alone", x.count(2), 6);
        TermReckoner full = one();
        fill(full, 400);
        Due.same("a person comes behind 400 entries", full.person(), 1);
        full.today(9);
        full.person();
        full.as(0);
        Due.same("a person is no entry that a day could not know", full.kind(2, 0), 0);
        Due.same("all persons on each day", full.count(1), 3);
    }

    private static void askNobody(TermReckoner x, int person) {
        String who = " of person " + person;
        Due.same("letter" + who, x.letter(person, 1), 1);
        Due.same("term" + who, x.term(person, 1, 0, 1), 1);
        Due.same("waits" + who, x.waits(person, 1, BEHIND, 0, 1, 0), 1);
        Due.same("stay" + who, x.stay(person, 1, STAY, 0, 1, 0), 1);
        Due.same("quash" + who, x.quash(person, 1, 0), 1);
        Due.same("month" + who, x.month(person, 0, false, 30), 1);
        Due.same("held" + who, x.held(person, 0, 0, 0), 1);
        Due.same("tear" + who, x.tear(person, 0), 1);
        Due.same("copy" + who, x.copy(person, 0, 0, 0), 1);
        Due.same("copy to a month" + who, x.copy(0, 0, person, 0), 1);
        Due.same("off" + who, x.off(person, 0, 2, 0), 1);
        Due.same("back" + who, x.back(person, 0, 0), 1);
        Due.same("grant" + who, x.grant(person, 0), 1);
        Due.same("recall" + who, x.recall(person, 1, 1, 1), 1);
        Due.same("kind" + who, x.kind(person, 0), NONE);
        Due.same("begins" + who, x.begins(person, 0, LEAST), NONE);
        Due.same("ends" + who, x.ends(person, 0, LEAST), NONE);
        Due.same("counted" + who, x.counted(person, 0, 0, LEAST), NONE);
        Due.same("taken" + who, x.taken(person, 0, 0), NONE);
        Due.same("why" + who, x.why(person, 0, 0), NONE);
        Due.same("by" + who, x.by(person, 0, 0), NONE);
        Due.same("full" + who, x.full(person, LEAST), NONE);
        Due.same("watched" + who, x.watched(person, 0, LEAST), NONE);
        Due.same("open" + who, x.open(person, 0), NONE);
        Due.same("over" + who, x.over(person), NONE);
        Due.same("check" + who, x.check(person, 0, 0, 0), -2);
    }

    private static void places() {
        Doc.says("have FILES of 12 PLACES each.");
        TermReckoner x = of(6);
        for (int person = 0; person < 6; person++) {
            for (int place = 0; place < 12; place++) {
                Due.same("a letter of person " + person + " into place " + place, x.letter(person, place), 0);
            }
        }
        Due.same("72 places", x.count(2), 72);
        TermReckoner y = of(2);
        y.term(0, 0, 0, 10);
        for (int place : new int[] {LOW, -1, 12, 13, HIGH}) {
            askNowhere(y, place);
        }
        Due.same("entries", y.count(2), 1);
        Due.same("another's place is another", y.kind(1, 0), 0);
        y.letter(1, 5);
        y.term(1, 0, 7, 1);
        Due.same("nothing came into the first one's", y.kind(0, 5), 0);
        Due.same("the first one's order", y.begins(0, 0, LEAST), 0);
        Due.same("the other one's", y.begins(1, 0, LEAST), 7);
    }

    private static void askNowhere(TermReckoner x, int place) {
        String where = " in place " + place;
        Due.same("letter" + where, x.letter(0, place), 1);
        Due.same("term" + where, x.term(0, place, 0, 1), 1);
        Due.same("waits" + where, x.waits(0, place, BEHIND, 0, 1, 0), 1);
        Due.same("stay" + where, x.stay(0, place, STAY, 0, 1, 0), 1);
        Due.same("quash" + where, x.quash(0, place, 0), 1);
        Due.same("quash of what is" + where, x.quash(0, 1, place), 1);
        Due.same("off" + where, x.off(0, place, 2, 0), 1);
        Due.same("back" + where, x.back(0, place, 0), 1);
        Due.same("recall" + where, x.recall(0, place, 1, 1), 1);
        Due.same("kind" + where, x.kind(0, place), NONE);
        Due.same("begins" + where, x.begins(0, place, LEAST), NONE);
        Due.same("ends" + where, x.ends(0, place, LEAST), NONE);
        Due.same("counted" + where, x.counted(0, place, 0, LEAST), NONE);
        Due.same("taken" + where, x.taken(0, place, 0), NONE);
        Due.same("why" + where, x.why(0, place, 0), NONE);
        Due.same("by" + where, x.by(0, place, 0), NONE);
        Due.same("check" + where, x.check(0, place, 0, 0), -2);
    }

    private static void entries() {
        Doc.says("400 ENTRIES may be told in all");
        TermReckoner x = of(6);
        for (int i = 0; i < 72; i++) {
            x.letter(i % 6, i / 6);
        }
        for (int i = 72; i < 399; i++) {
            x.tear(i % 6, i % 120);
        }
        for (int i = 0; i < 20; i++) {
            Due.same("what is refused is none of them", x.letter(i % 6, 0), 2);
        }
        Due.same("so far", x.count(2), 399);
        Due.same("the 400th", x.tear(5, 0), 0);
        Due.same("all", x.count(2), 400);
        for (int person = 0; person < 6; person++) {
            Due.same("the 401st, of person " + person, x.tear(person, 1), 7);
        }
        x.today(50);
        Due.same("also on a later day", x.tear(0, 1), 7);
        Due.same("still", x.count(2), 400);
        Due.same("the last one's month", x.image(399, 3), 0);
        Due.same("there is no 401st", x.image(400, 0), NONE);
    }

    private static void known() {
        Doc.says("each is KNOWN from the TODAY on on which it was told.");
        for (int person : new int[] {0, 5}) {
            for (int shift : new int[] {0, 5}) {
                knownFromDay40(person, shift);
            }
        }
        knownInTheirOrder();
    }

    /** An ENTRY of each call is told on day 40; the person's PLACES begin with one of the first. */
    private static void knownFromDay40(int p, int first) {
        TermReckoner x = of(6);
        int term = first;
        int quashed = first + 1;
        int letter = first + 2;
        int behind = first + 3;
        int recalled = first + 6;
        int later = (first + 7) % 12;
        x.term(p, term, 0, 100);
        x.term(p, quashed, 0, 10);
        x.month(p, 1, false, 30);
        x.month(p, 2, false, 30);
        x.month(1, 0, false, 20);
        x.today(39);
        x.grant(p, 60);
        x.today(40);
        x.letter(p, letter);
        x.term(p, later, 9, 3);
        x.waits(p, behind, BEHIND, 50, 5, 0);
        x.stay(p, first + 4, STAY, 7, 7, set(term));
        x.quash(p, first + 5, quashed);
        x.held(p, 1, 8, 0);
        x.tear(p, 3);
        x.month(p, 4, true, 3);
        x.copy(1, 0, p, 2);
        x.off(p, term, 10, 0);
        x.back(p, term, 1);
        x.recall(p, recalled, 3000, 1000);
        x.today(41);
        x.tear(p, 100);
        // Up to day d there COUNT d - 1 (not 7, not 38); TAKEN are 3 of 8 to 37 and (d - 38) / 10, and 1 is GIVEN.
        int endThen = 94;
        for (int day : new int[] {39, 40, 38, 40, 41, 40, 0, 40, 39}) {
            boolean on = day >= 40;
            String when = " of person " + p + " on day " + day;
            x.as(day);
            Due.same("letter" + when, x.kind(p, letter), on ? 1 : 0);
            Due.same("term" + when, x.ends(p, later, LEAST), on ? 11 : NONE);
            Due.same("waits" + when, x.begins(p, behind, LEAST), on ? 50 : NONE);
            Due.same("stay" + when, x.why(p, term, 7), on ? 4 : 0);
            Due.same("quash" + when, x.ends(p, quashed, LEAST), on ? NONE : 9);
            Due.same("held" + when, x.why(p, term, 38), on ? 5 : 0);
            Due.same("tear" + when, x.open(p, 3), on ? 1 : 0);
            Due.same("month" + when, x.open(p, 4), on ? 1 : 0);
            Due.same("copy" + when, x.open(p, 2), on ? 1 : 0);
            Due.same("off" + when, x.taken(p, term, 37), on ? 3 : 0);
            Due.same("back" + when, x.ends(p, term, LEAST), on ? endThen : 99);
            Due.same("recall" + when, x.kind(p, recalled), on ? 2 : 0);
            // FULL was 95: of the days from 60 on all are 35.
            Due.same("its need" + when, x.ends(p, recalled, LEAST), on ? 3034 : NONE);
            Due.same("the first term" + when, x.begins(p, term, LEAST), 0);
            Due.same("the last tear" + when, x.open(p, 100), day == 41 ? 1 : 0);
        }
    }

    private static void knownInTheirOrder() {
        Doc.says("What is asked is asked AS KNOWN on a day: by the ENTRIES that were told on it or ahead of it, in their order.");
        TermReckoner y = one();
        y.waits(0, 0, LIFE, 0, 1, 0);
        y.term(0, 1, 0, 100);
        y.today(3);
        y.month(0, 0, false, 30);
        y.held(0, 0, 4, 0);
        y.today(4);
        y.held(0, 0, 4, 1);
        y.held(0, 0, 5, 0);
        y.month(0, 0, false, 30);
        y.held(0, 0, 6, 0);
        y.off(0, 1, 2, 0);
        y.off(0, 1, 50, 0);
        y.today(5);
        y.held(0, 0, 6, 9);
        int[] none = {-1, -1, -1, 4, 6, -1};
        for (int day : new int[] {5, 4, 3, 2, 3, 4, 5}) {
            y.as(day);
            for (int asked = 3; asked < 8; asked++) {
                boolean out = asked == none[day];
                Due.same("as known on day " + day + ", day " + asked, y.why(0, 0, asked), out ? 5 : 0);
            }
        }
        y.as(4);
        // Of 0 to 5 and 7 on: d + (d - 6) / 50 >= 100 first where d is 99.
        Due.same("of two rules of a day the later", y.ends(0, 1, LEAST), 99);
    }

    private static void asked() {
        Doc.says("(as() sets that day; it is TODAY as long as none is set.)");
        TermReckoner x = one();
        x.today(8);
        x.letter(0, 0);
        Due.same("none is set", x.kind(0, 0), 1);
        x.as(7);
        Due.same("day 7 is set", x.kind(0, 0), 0);
        Due.same("it is told so", x.count(3), 7);
        x.today(9);
        x.letter(0, 1);
        x.as(8);
        Due.same("day 8 is set", x.kind(0, 0), 1);
        Due.same("day 8 does not know day 9", x.kind(0, 1), 0);
        x.today(11);
        Due.same("TODAY goes on, the day stays", x.count(3), 8);
        x.as(NONE);
        Due.same("none is set again", x.kind(0, 1), 1);
        Due.same("it is TODAY", x.count(3), 11);
    }

    private static void thousandths() {
        Doc.says("THOUSANDTHS of n: n * t / 1000, rounded up.");
        int[][] cases = {{1, 1, 1}, {1, 1000, 1}, {3, 333, 1}, {3, 334, 2}, {3, 666, 2}, {3, 667, 3}, {999, 1, 1},
            {1000, 1, 1}, {1001, 1, 2}, {1000, 999, 999}, {1001, 999, 1000}, {2, 500, 1}, {21, 500, 11}, {3600, 999, 3597},
            {3600, 1000, 3600}, {3600, 1, 4}, {3599, 1000, 3599}};
        for (int[] each : cases) {
            TermReckoner x = one();
            x.term(0, 0, 0, each[0]);
            Due.same(each[1] + " of " + each[0], x.watched(0, each[1], LEAST) + 1, each[2]);
        }
        TermReckoner none = one();
        none.term(0, 0, 5, 3000);
        Due.same("0 of 3000 is nothing", none.watched(0, 0, LEAST), 0);
    }

    /** Places 0 to 8 have all kinds 0 to 8; what is in 9 is QUASHED by 8. */
    private static void tellAllKinds(TermReckoner x) {
        x.person();
        x.letter(0, 1);
        x.term(0, 2, 0, 10);
        x.waits(0, 3, BEHIND, 0, 10, 0);
        x.waits(0, 4, BESIDE, 0, 10, 0);
        x.waits(0, 5, LIFE, 0, 10, 0);
        x.stay(0, 6, STAY, 0, 1, 0);
        x.stay(0, 7, CREDIT, 0, 1, 0);
        x.term(0, 9, 0, 10);
        x.quash(0, 8, 9);
    }

    private static void somethingInAPlace() {
        Doc.says("A PLACE has nothing, a LETTER, or an ORDER; what is put in a PLACE that has something is refused.");
        for (int place = 1; place <= 9; place++) {
            int at = place;
            String there = " into a place of kind " + (place == 9 ? "2, quashed" : place);
            refused("letter" + there, 2, EdgesOfDaysAndPlaces::tellAllKinds, x -> x.letter(0, at));
            refused("term" + there, 2, EdgesOfDaysAndPlaces::tellAllKinds, x -> x.term(0, at, 5, 5));
            refused("waits" + there, 2, EdgesOfDaysAndPlaces::tellAllKinds, x -> x.waits(0, at, LIFE, 5, 5, 0));
            refused("stay" + there, 2, EdgesOfDaysAndPlaces::tellAllKinds, x -> x.stay(0, at, STAY, 5, 5, ALL));
            refused("quash" + there, 2, EdgesOfDaysAndPlaces::tellAllKinds, x -> x.quash(0, at, 2));
            refused("recall" + there, 2, EdgesOfDaysAndPlaces::tellAllKinds, x -> x.recall(0, at, 5, 500));
        }
        TermReckoner x = new TermReckoner();
        tellAllKinds(x);
        Due.same("nothing is in place 0", x.kind(0, 0), 0);
        Due.same("into that comes something", x.term(0, 0, 0, 1), 0);
    }

    private static void sets() {
        Doc.says("SETS are PLACES as bits (1 for PLACE 0, 2, 4, ..; 4095 all)");
        for (int place = 0; place < 12; place++) {
            TermReckoner x = one();
            int stay = (place + 5) % 12;
            int behind = (place + 7) % 12;
            for (int other = 0; other < 12; other++) {
                if (other != stay && other != behind) {
                    x.term(0, other, 0, other == place ? 50 : 20);
                }
            }
            x.waits(0, behind, BEHIND, 0, 5, set(place));
            x.stay(0, stay, STAY, 3, 3, set(place));
            for (int other = 0; other < 12; other++) {
                int due = other == stay ? 7 : other == behind ? 2 : other == place ? 4 : 0;
                Due.same("a stay for place " + place + ": place " + other, x.why(0, other, 3), due);
            }
            Due.same("behind place " + place + " alone", x.begins(0, behind, LEAST), 51);
        }
        TermReckoner all = one();
        all.stay(0, 0, STAY, 3, 3, ALL);
        for (int place = 1; place < 12; place++) {
            all.term(0, place, 0, 20 + place);
            Due.same("4095 names place " + place, all.why(0, place, 3), 4);
        }
        TermReckoner none = one();
        none.term(0, 0, 0, 20);
        none.stay(0, 1, STAY, 3, 3, 0);
        none.waits(0, 2, BEHIND, 1, 5, 0);
        none.waits(0, 3, BESIDE, 1, 5, 0);
        Due.same("0 names none: a stay", none.why(0, 0, 3), 0);
        Due.same("0 names none: a behind", none.begins(0, 2, LEAST), 1);
        Due.same("0 names none: a beside", none.begins(0, 3, LEAST), 1);
    }

    private static void setsOfNothing() {
        Doc.says("a SET may name PLACES that have nothing (yet)");
        TermReckoner x = one();
        Due.same("behind what is not there", x.waits(0, 1, BEHIND, 2, 5, set(0)), 0);
        Due.same("beside what is not there", x.waits(0, 2, BESIDE, 2, 5, set(0)), 0);
        Due.same("a stay of what is not there", x.stay(0, 3, STAY, 12, 12, set(0)), 0);
        Due.same("a credit of what is not there", x.stay(0, 4, CREDIT, 1, 1, set(0)), 0);
        Due.same("the behind begins by itself", x.begins(0, 1, LEAST), 2);
        Due.same("the beside begins by itself", x.begins(0, 2, LEAST), 2);
        x.term(0, 0, 10, 5);
        // Counts on 1 by credit, on 10, 11, 13, 14.
        Due.same("now there is one: it is credited and stayed", x.ends(0, 0, LEAST), 14);
        Due.same("the behind begins behind it", x.begins(0, 1, LEAST), 15);
        Due.same("the beside begins with it", x.begins(0, 2, LEAST), 10);

        Doc.says("what counts are those that have ORDERS that RUN.");
        for (int kind : new int[] {BEHIND, BESIDE, LIFE}) {
            TermReckoner y = new TermReckoner();
            tellAllKinds(y);
            Due.same("a set of nothing, a letter, a stay, a credit, a quash",
                    y.waits(0, 10, kind, 3, 5, set(0, 1, 6, 7, 8)), 0);
            Due.same("kind " + kind + " begins by itself", y.begins(0, 10, LEAST), 3);
        }
        TermReckoner z = one();
        z.letter(0, 0);
        z.term(0, 1, 20, 5);
        z.waits(0, 2, BESIDE, 3, 5, set(0, 1));
        Due.same("of a letter and a term the term counts", z.begins(0, 2, LEAST), 20);
    }

    private static void orders() {
        Doc.says("ORDERS that RUN have FROM, a day, and NEED: 2 TERM: NEED days. 3 BEHIND: a TERM that BEGINS behind the"
                + " ORDERS of its SET. 4 BESIDE: a TERM that BEGINS with them.");
        TermReckoner x = one();
        x.term(0, 0, 0, 1);
        x.term(0, 1, 4, 2);
        x.waits(0, 2, BEHIND, 0, 1, set(0, 1));
        x.waits(0, 3, BESIDE, 0, 1, set(1));
        Due.same("one day", x.ends(0, 0, LEAST), 0);
        Due.same("two days", x.ends(0, 1, LEAST), 5);
        Due.same("behind both", x.begins(0, 2, LEAST), 6);
        Due.same("its only day", x.ends(0, 2, LEAST), 6);
        Due.same("with the second", x.begins(0, 3, LEAST), 4);
        Due.same("its only day", x.ends(0, 3, LEAST), 4);

        Doc.says("5 LIFE: a BEHIND without end (its NEED is what it needs to be watched).");
        TermReckoner y = one();
        y.term(0, 0, 0, 4);
        y.waits(0, 1, LIFE, 0, 1, set(0));
        Due.same("it begins behind", y.begins(0, 1, LEAST), 4);
        Due.same("it has no end", y.ends(0, 1, LEAST), NONE);
        Due.same("also where its need has long counted", y.why(0, 1, 3599), 0);
        Due.same("all of its days count", y.counted(0, 1, 3599, LEAST), 3596);
        Due.same("it is watched on its first day", y.watched(0, 0, LEAST), 4);
        TermReckoner z = one();
        z.waits(0, 0, LIFE, 0, 3600, 0);
        Due.same("the most that it may need", z.watched(0, 0, LEAST), 3599);
        z.quash(0, 1, 0);
        z.waits(0, 2, LIFE, 1, 3600, 0);
        Due.same("one day too late for that", z.watched(0, 0, LEAST), NONE);
    }

    private static void stays() {
        Doc.says("Others: 6 STAY: from a day to a day (both with it), for a SET: on these days nothing counts for its ORDERS.");
        int[][] spans = {{0, 0}, {0, 29}, {5, 5}, {5, 6}, {29, 30}, {30, 30}, {10, 95}, {3599, 3599}, {3570, 3599}, {0, 3599}};
        for (int[] span : spans) {
            TermReckoner x = one();
            x.waits(0, 0, LIFE, 0, 1, 0);
            x.waits(0, 1, LIFE, 0, 1, 0);
            x.stay(0, 2, STAY, span[0], span[1], set(0));
            String what = " of a stay from " + span[0] + " to " + span[1];
            Due.same("the first day" + what, x.why(0, 0, span[0]), 4);
            Due.same("the last day" + what, x.why(0, 0, span[1]), 4);
            Due.same("the day ahead" + what, x.why(0, 0, span[0] - 1), span[0] == 0 ? NONE : 0);
            Due.same("the day behind" + what, x.why(0, 0, span[1] + 1), span[1] == 3599 ? NONE : 0);
            Due.same("the days" + what, 3600 - x.counted(0, 0, 3599, LEAST), span[1] - span[0] + 1);
            Due.same("up to the first day" + what, x.counted(0, 0, span[0], LEAST), span[0]);
            Due.same("up to the last day" + what, x.counted(0, 0, span[1], LEAST), span[0]);
            Due.same("for another order", x.counted(0, 1, 3599, LEAST), 3600);
        }
        TermReckoner x = one();
        x.term(0, 0, 5, 5);
        x.stay(0, 1, CREDIT, 0, 4, set(0));
        x.stay(0, 2, STAY, 2, 2, set(0));
        Due.same("nor a day of credit", x.why(0, 0, 2), 4);
        Due.same("four by credit, one more", x.ends(0, 0, LEAST), 5);

        Doc.says("7 CREDIT: likewise: days on which the person was held elsewhere, for a SET.");
        for (int[] span : spans) {
            TermReckoner y = one();
            y.waits(0, 0, BEHIND, 0, 3600, set(4));
            y.waits(0, 1, BEHIND, 0, 3600, set(4));
            y.waits(0, 4, LIFE, 0, 1, 0);
            y.stay(0, 2, CREDIT, span[0], span[1], set(0));
            String what = " of a credit from " + span[0] + " to " + span[1];
            Due.same("the first day" + what, y.why(0, 0, span[0]), 1);
            Due.same("the last day" + what, y.why(0, 0, span[1]), 1);
            Due.same("the day ahead" + what, y.why(0, 0, span[0] - 1), span[0] == 0 ? NONE : 2);
            Due.same("the day behind" + what, y.why(0, 0, span[1] + 1), span[1] == 3599 ? NONE : 2);
            Due.same("the days" + what, y.counted(0, 0, 3599, LEAST), span[1] - span[0] + 1);
            Due.same("for another order", y.counted(0, 1, 3599, LEAST), 0);
        }
    }

    private static void quashes() {
        Doc.says("8 QUASH of a PLACE: the ORDER there (if it has one, at that time) is QUASHED");
        TermReckoner x = one();
        Due.same("where none is", x.quash(0, 1, 0), 5);
        x.term(0, 0, 0, 10);
        Due.same("what comes there later is not quashed", x.ends(0, 0, LEAST), 9);
        Due.same("now there is one", x.quash(0, 1, 0), 0);
        Due.same("it is quashed", x.ends(0, 0, LEAST), NONE);

        Doc.says("as if it had never been made, from the day on from which this is KNOWN.");
        TermReckoner y = one();
        y.term(0, 0, 0, 50);
        y.stay(0, 1, STAY, 3, 3, set(0));
        y.stay(0, 2, CREDIT, 60, 60, set(4));
        y.waits(0, 3, BEHIND, 2, 5, set(0));
        y.waits(0, 4, BESIDE, 70, 5, set(0));
        y.today(30);
        y.quash(0, 5, 1);
        y.today(40);
        y.quash(0, 6, 2);
        y.today(41);
        y.quash(0, 7, 0);
        Due.same("day 0 of it is quashed, too", y.why(0, 0, 0), 6);
        Due.same("behind it", y.begins(0, 3, LEAST), 2);
        int[] days = {29, 30, 39, 40, 41};
        int[] ends = {50, 49, 49, 49, NONE};
        int[] credits = {1, 1, 1, 2, 2};
        for (int i = 0; i < days.length; i++) {
            y.as(days[i]);
            Due.same("the order as known on day " + days[i], y.ends(0, 0, LEAST), ends[i]);
            Due.same("what is behind it", y.begins(0, 3, LEAST), ends[i] == NONE ? 2 : ends[i] + 1);
            Due.same("the stay as known on day " + days[i], y.why(0, 0, 3), i == 0 ? 4 : i < 4 ? 0 : 6);
            Due.same("the credit as known on day " + days[i], y.why(0, 4, 60), credits[i]);
        }

        Doc.says("(A QUASH, a LETTER can't be quashed; a QUASHED ORDER's PLACE stays its own.)");
        refused("a quash", 5, EdgesOfDaysAndPlaces::tellAllKinds, z -> z.quash(0, 10, 8));
        refused("a letter", 5, EdgesOfDaysAndPlaces::tellAllKinds, z -> z.quash(0, 10, 1));
        for (int kind = 2; kind <= 7; kind++) {
            TermReckoner z = new TermReckoner();
            tellAllKinds(z);
            Due.same("quash of kind " + kind, z.quash(0, 10, kind), 0);
            Due.same("its place has it still", z.kind(0, kind), kind);
            Due.same("nothing else comes into it", z.letter(0, kind), 2);
        }
    }

    private static void beginOfTerm() {
        Doc.says("BEGIN of TERM: FROM.");
        TermReckoner x = one();
        x.term(0, 0, 0, 1);
        x.term(0, 1, 3599, 3600);
        x.stay(0, 2, STAY, 0, 3599, ALL);
        Due.same("day 0, though stayed", x.begins(0, 0, LEAST), 0);
        Due.same("day 3599", x.begins(0, 1, MOST), 3599);
    }

    private static void beginBehind() {
        Doc.says("Of BEHIND and LIFE: FROM, or, if that is later, the day behind the last END of the ORDERS of its SET");
        for (int kind : new int[] {BEHIND, LIFE}) {
            for (int from : new int[] {0, 9, 10, 11, 12, 30}) {
                TermReckoner x = one();
                x.term(0, 0, 0, 10);
                x.term(0, 1, 0, 7);
                x.waits(0, 2, kind, from, 5, set(0));
                x.waits(0, 3, kind, from, 5, set(0, 1));
                x.waits(0, 4, kind, from, 5, set(1));
                String what = "kind " + kind + " from " + from;
                Due.same(what + " behind an end on day 9", x.begins(0, 2, LEAST), Math.max(from, 10));
                Due.same(what + " behind ends on days 9 and 6", x.begins(0, 3, LEAST), Math.max(from, 10));
                Due.same(what + " behind an end on day 6", x.begins(0, 4, LEAST), Math.max(from, 7));
            }
        }

        for (int step : new int[] {1, 11, 5, 7}) {
            TermReckoner chain = one();
            chain.term(0, step, 0, 1);
            for (int i = 1; i < 12; i++) {
                chain.waits(0, (i + 1) * step % 12, BEHIND, 0, 1, set(i * step % 12));
            }
            for (int i = 0; i < 12; i++) {
                Due.same("twelve one behind the other, number " + i, chain.begins(0, (i + 1) * step % 12, LEAST), i);
            }
        }

        Doc.says("it never BEGINS if one of these never ENDS.");
        for (int kind : new int[] {BEHIND, LIFE}) {
            for (int place : new int[] {0, 11}) {
                TermReckoner x = one();
                x.term(0, 5, 0, 10);
                x.term(0, place, 3599, 2);
                x.waits(0, 6, kind, 0, 5, set(5, place));
                x.waits(0, 7, kind, 3599, 5, set(5, place));
                x.waits(0, 8, kind, 0, 5, set(6));
                Due.same("one of two never ends", x.begins(0, 6, LEAST), NONE);
                Due.same("also from the last day", x.begins(0, 7, LEAST), NONE);
                Due.same("behind what never begins", x.begins(0, 8, LEAST), NONE);
                Due.same("none of its days has begun", x.why(0, 6, 3599), 2);
            }
        }
    }

    private static void beginBeside() {
        Doc.says("Of BESIDE: FROM, or, if that is later, the least BEGIN of those of its SET (without one: FROM)");
        for (int from : new int[] {0, 19, 20, 21, 24, 25, 26}) {
            TermReckoner x = one();
            x.term(0, 0, 20, 10);
            x.term(0, 1, 25, 1);
            x.waits(0, 2, BESIDE, from, 5, set(0));
            x.waits(0, 3, BESIDE, from, 5, set(0, 1));
            x.waits(0, 4, BESIDE, from, 5, set(1));
            x.waits(0, 5, BESIDE, from, 5, 0);
            x.waits(0, 6, BESIDE, from, 5, set(9, 10));
            Due.same("from " + from + " beside a begin on day 20", x.begins(0, 2, LEAST), Math.max(from, 20));
            Due.same("from " + from + " beside begins on days 20 and 25", x.begins(0, 3, LEAST), Math.max(from, 20));
            Due.same("from " + from + " beside a begin on day 25", x.begins(0, 4, LEAST), Math.max(from, 25));
            Due.same("from " + from + " with an empty set", x.begins(0, 5, LEAST), from);
            Due.same("from " + from + " beside places that have nothing", x.begins(0, 6, LEAST), from);
        }

        Doc.says("it never BEGINS if none of them does.");
        TermReckoner x = one();
        x.waits(0, 0, LIFE, 0, 1, 0);
        x.waits(0, 1, BEHIND, 0, 5, set(0));
        x.waits(0, 2, LIFE, 0, 5, set(0));
        x.waits(0, 3, BESIDE, 4, 5, set(1));
        x.waits(0, 4, BESIDE, 4, 5, set(1, 2));
        x.waits(0, 5, BESIDE, 4, 5, set(3));
        x.waits(0, 6, BESIDE, 4, 5, set(1, 2, 0));
        x.waits(0, 7, BESIDE, 4, 5, set(3, 6));
        Due.same("one that never begins", x.begins(0, 3, LEAST), NONE);
        Due.same("two that never begin", x.begins(0, 4, LEAST), NONE);
        Due.same("a beside that never begins", x.begins(0, 5, LEAST), NONE);
        Due.same("one of them does", x.begins(0, 6, LEAST), 4);
        Due.same("one of two besides does", x.begins(0, 7, LEAST), 4);
    }

    private static void quashedAreNone() {
        Doc.says("(QUASHED ones are none.)");
        TermReckoner x = one();
        x.waits(0, 0, LIFE, 0, 1, 0);
        x.term(0, 1, 10, 5);
        x.waits(0, 2, BEHIND, 3, 5, set(0, 1));
        x.waits(0, 3, BESIDE, 3, 5, set(1));
        x.waits(0, 4, BESIDE, 3, 5, set(1, 5));
        x.term(0, 5, 40, 5);
        x.waits(0, 6, LIFE, 3, 5, set(0));
        Due.same("behind a life", x.begins(0, 2, LEAST), NONE);
        Due.same("beside a term", x.begins(0, 3, LEAST), 10);
        Due.same("beside two", x.begins(0, 4, LEAST), 10);
        x.quash(0, 7, 0);
        Due.same("behind a quashed life and a term", x.begins(0, 2, LEAST), 15);
        Due.same("a life behind a quashed one", x.begins(0, 6, LEAST), 3);
        x.quash(0, 8, 1);
        Due.same("behind two quashed ones", x.begins(0, 2, LEAST), 3);
        Due.same("beside a quashed one: without one", x.begins(0, 3, LEAST), 3);
        Due.same("beside a quashed one and another", x.begins(0, 4, LEAST), 40);
    }

    private static void beginBehind3599() {
        Doc.says("(A BEGIN behind 3599 is never.)");
        TermReckoner x = one();
        x.term(0, 0, 0, 3599);
        x.term(0, 1, 0, 3600);
        x.waits(0, 2, BEHIND, 0, 1, set(0));
        x.waits(0, 3, BEHIND, 0, 1, set(1));
        x.waits(0, 4, LIFE, 0, 1, set(0));
        x.waits(0, 5, LIFE, 0, 1, set(1));
        x.waits(0, 6, BESIDE, 0, 1, set(3));
        x.waits(0, 7, BEHIND, 0, 1, set(2));
        Due.same("behind an end on 3598", x.begins(0, 2, LEAST), 3599);
        Due.same("behind an end on 3599", x.begins(0, 3, LEAST), NONE);
        Due.same("a life behind an end on 3598", x.begins(0, 4, LEAST), 3599);
        Due.same("a life behind an end on 3599", x.begins(0, 5, LEAST), NONE);
        Due.same("beside what would begin on 3600", x.begins(0, 6, LEAST), NONE);
        Due.same("behind what begins and ends on 3599", x.begins(0, 7, LEAST), NONE);
        Due.same("what begins on 3599 may end there", x.ends(0, 2, LEAST), 3599);
        Due.same("what never begins never ends", x.ends(0, 3, LEAST), NONE);
    }

    private static void rings() {
        Doc.says("A RING: ORDERS that RUN (QUASHED ones, too) each of which names the next one in its SET, the last one the"
                + " first one (also one that names itself).");
        for (int kind : new int[] {BEHIND, BESIDE, LIFE}) {
            for (int length = 1; length <= 12; length++) {
                TermReckoner x = one();
                for (int i = 0; i < length - 1; i++) {
                    Due.same("a chain is none", x.waits(0, i, BEHIND + i % 3, 0, 1, set(i + 1)), 0);
                }
                Due.same("a ring of " + length, x.waits(0, length - 1, kind, 0, 1, set(0)), 4);
                Due.same("nothing is told", x.count(2), length - 1);
                Due.same("to itself alone", x.waits(0, length - 1, kind, 0, 1, set(length - 1)), 4);
                Due.same("without these two it is none",
                        x.waits(0, length - 1, kind, 0, 1, ALL - (set(length) - 1)), 0);
            }
        }
        TermReckoner x = one();
        x.waits(0, 0, BEHIND, 0, 1, set(1));
        x.quash(0, 5, 0);
        Due.same("through a quashed one", x.waits(0, 1, BEHIND, 0, 1, set(0)), 4);
        TermReckoner y = one();
        y.waits(0, 0, BEHIND, 0, 1, set(1, 2, 3));
        y.term(0, 1, 0, 1);
        y.letter(0, 2);
        y.stay(0, 3, STAY, 0, 1, set(4));
        Due.same("through a term, a letter, a stay goes none", y.waits(0, 4, BEHIND, 0, 1, set(0)), 0);
        Due.same("nor is a stay in one that names itself", y.stay(0, 6, STAY, 0, 1, set(6)), 0);
        Due.same("nor a credit of all", y.stay(0, 7, CREDIT, 0, 1, ALL), 0);
        TermReckoner z = one();
        z.waits(0, 0, BEHIND, 0, 1, set(1));
        Due.same("a term in the place that is named closes none", z.term(0, 1, 0, 1), 0);
        TermReckoner two = of(2);
        two.waits(0, 0, BEHIND, 0, 1, set(1));
        Due.same("another person's orders are in none of these", two.waits(1, 1, BEHIND, 0, 1, set(0)), 0);
        TermReckoner diamond = one();
        diamond.waits(0, 0, BEHIND, 0, 1, set(1, 2));
        diamond.waits(0, 1, BEHIND, 0, 1, set(3));
        diamond.waits(0, 2, BEHIND, 0, 1, set(3));
        Due.same("two ways to one place are none", diamond.waits(0, 3, BEHIND, 0, 1, set(4)), 0);
    }
}
