/** The document's Terms IV (full, watched, grants, recalls, over) and V (reasons), sentence by sentence. */
final class EdgesOfRelease extends EdgesBase {
    private EdgesOfRelease() {
    }

    static void all() {
        Doc.section("IV");
        Doc.namesNoEdge("RELEASE.");
        full();
        watched();
        grants();
        recalls();
        over();
        quashedAreNone();
        latestGrant();
        Doc.section("V");
        reasons();
        orderOfReasons();
        by();
        Doc.section("The constants");
        Doc.says("NONE = -1: None, never.");
        Due.same("NONE", TermReckoner.NONE, -1);
    }

    private static void full() {
        Doc.says("FULL: the day behind the last END of all ORDERS that RUN (3600 perhaps; 0 without one; never, if one never"
                + " ENDS).");
        TermReckoner x = one();
        Due.same("of nothing", x.full(0, LEAST), 0);
        x.letter(0, 0);
        x.stay(0, 1, STAY, 0, 50, ALL);
        x.stay(0, 2, CREDIT, 0, 50, ALL);
        Due.same("without an order that runs: least", x.full(0, LEAST), 0);
        Due.same("without an order that runs: most", x.full(0, MOST), 0);
        TermReckoner y = one();
        y.term(0, 11, 0, 1);
        Due.same("an end on day 0", y.full(0, LEAST), 1);
        y.term(0, 0, 0, 40);
        y.term(0, 5, 0, 30);
        Due.same("the last of three", y.full(0, LEAST), 40);
        y.term(0, 6, 3598, 1);
        Due.same("an end on day 3598", y.full(0, LEAST), 3599);
        y.term(0, 7, 3599, 1);
        Due.same("an end on day 3599", y.full(0, LEAST), 3600);
        y.term(0, 8, 3599, 2);
        Due.same("one never ends", y.full(0, LEAST), NONE);
        for (int place = 0; place < 3; place++) {
            TermReckoner z = one();
            for (int i = 0; i < 3; i++) {
                if (i == place) {
                    z.waits(0, i, LIFE, 0, 1, 0);
                } else {
                    z.term(0, i, 0, 10);
                }
            }
            Due.same("one is a life, in place " + place, z.full(0, LEAST), NONE);
        }
        TermReckoner never = one();
        never.term(0, 0, 3599, 2);
        never.waits(0, 1, BEHIND, 0, 1, set(0));
        never.quash(0, 2, 0);
        never.waits(0, 3, LIFE, 0, 1, 0);
        never.waits(0, 4, BESIDE, 0, 1, set(3));
        never.quash(0, 5, 3);
        Due.same("those that waited end", never.full(0, LEAST), 1);
    }

    private static void watched() {
        Doc.says("WATCHED by a part: the first day by which of each ORDER that RUNS THOUSANDTHS of its NEED (a LIFE: NEED)"
                + " have COUNTED, or it has ENDED (0 without an ORDER).");
        TermReckoner x = one();
        Due.same("of nothing", x.watched(0, 1000, LEAST), 0);
        x.stay(0, 0, STAY, 0, 9, ALL);
        x.letter(0, 1);
        Due.same("without an order that runs", x.watched(0, 1000, LEAST), 0);
        x.term(0, 2, 5, 10);
        // Days 0 to 9 are stayed: its days are 10 to 19.
        Due.same("nothing of it", x.watched(0, 0, LEAST), 0);
        Due.same("one day of it", x.watched(0, 1, LEAST), 10);
        Due.same("one of ten", x.watched(0, 100, LEAST), 10);
        Due.same("more than one of ten", x.watched(0, 101, LEAST), 11);
        Due.same("all", x.watched(0, 1000, LEAST), 19);
        x.term(0, 3, 12, 4);
        Due.same("of each: half", x.watched(0, 500, LEAST), 14);
        Due.same("of each: a quarter", x.watched(0, 250, LEAST), 12);
        Due.same("of each: all", x.watched(0, 1000, LEAST), 19);
        x.waits(0, 4, LIFE, 0, 3, 0);
        Due.same("of a life all, by 0", x.watched(0, 0, LEAST), 12);
        Due.same("of a life all, by 1000", x.watched(0, 1000, LEAST), 19);
        TermReckoner y = one();
        y.term(0, 0, 0, 100);
        y.off(0, 0, 2, 0);
        // d + d / 2 >= 100 first where d is 67: it ends on day 66, with 67 counted.
        Due.same("67 have counted by its end", y.watched(0, 670, LEAST), 66);
        Due.same("68 never do, but it has ended", y.watched(0, 671, LEAST), 66);
        Due.same("all", y.watched(0, 1000, LEAST), 66);
        Due.same("66 have a day earlier: taken ones are none", y.watched(0, 660, LEAST), 65);
        TermReckoner z = one();
        z.term(0, 0, 3598, 4);
        Due.same("half of it on the last day", z.watched(0, 500, LEAST), 3599);
        Due.same("more than half never", z.watched(0, 501, LEAST), NONE);
        z.stay(0, 1, CREDIT, 0, 0, set(0));
        Due.same("with a day of credit", z.watched(0, 501, LEAST), 3599);
        Due.same("by a quarter on that day", z.watched(0, 250, LEAST), 0);
        TermReckoner open = one();
        open.term(0, 0, 10, 30);
        open.tear(0, 1);
        Due.same("least", open.watched(0, 700, LEAST), 30);
        Due.same("most", open.watched(0, 700, MOST), 60);
        Due.same("most: by the day ahead of it", open.watched(0, 666, MOST), 29);
        TermReckoner none = one();
        none.term(0, 0, 0, 100);
        Due.same("none of it have counted by day 0, though that counts", none.watched(0, 0, LEAST), 0);
    }

    private static void grants() {
        Doc.says("A GRANT is a day not ahead of WATCHED (by 500, LEAST, as known TODAY).");
        TermReckoner x = one();
        x.term(0, 0, 10, 41);
        x.tear(0, 0);
        // Half is 20.5: 21 days, 10 to 30.
        Due.same("ahead of it", x.grant(0, 29), 8);
        Due.same("on it", x.grant(0, 30), 0);
        Due.same("behind it", x.grant(0, 31), 0);
        Due.same("least: of most it is day 50", x.watched(0, 500, MOST), 50);
        x.today(9);
        x.term(0, 1, 0, 200);
        x.as(8);
        Due.same("as known TODAY, not on the day asked", x.grant(0, 98), 8);
        Due.same("on day 99", x.grant(0, 99), 0);
        Due.same("the day asked knows no better", x.watched(0, 500, LEAST), 30);
        TermReckoner half = one();
        half.term(0, 0, 0, 2000);
        Due.same("half of 2000: 999 days", half.grant(0, 998), 8);
        Due.same("half of 2000: 1000 days", half.grant(0, 999), 0);
        TermReckoner y = one();
        Due.same("without an order on day 0", y.grant(0, 0), 0);
        y.waits(0, 0, LIFE, 10, 5, 0);
        Due.same("of a life all, not half: ahead of it", y.grant(0, 13), 8);
        Due.same("of a life all, not half", y.grant(0, 14), 0);
        Due.same("it may be on the last day", y.grant(0, 3599), 0);
    }

    private static void recalls() {
        Doc.says("A RECALL puts a TERM into a PLACE: FROM a day behind the latest GRANT, NEED THOUSANDTHS of the days from"
                + " that GRANT to FULL (LEAST, as known TODAY), 1 at least.");
        TermReckoner x = one();
        x.term(0, 0, 0, 100);
        x.tear(0, 3);
        x.grant(0, 60);
        Due.same("on the day of the grant", x.recall(0, 1, 60, 500), 8);
        Due.same("ahead of it", x.recall(0, 1, 59, 500), 8);
        Due.same("the day behind it", x.recall(0, 1, 61, 500), 0);
        Due.same("it is a term", x.kind(0, 1), 2);
        Due.same("it begins there", x.begins(0, 1, LEAST), 61);
        // Of 40 days, 60 to 99, half; LEAST, for at most FULL were 130.
        Due.same("20 days: 61 to 80", x.ends(0, 1, LEAST), 80);
        // NEED of THOUSANDTHS of 40 days: 0.04 are 1, 1 is 1, 1.04 are 2, 39.96 are 40.
        int[][] cases = {{1, 1}, {25, 1}, {26, 2}, {999, 40}, {1000, 40}};
        for (int[] each : cases) {
            TermReckoner y = one();
            y.term(0, 0, 0, 100);
            y.grant(0, 60);
            Due.same("a recall by " + each[0], y.recall(0, 11, 3000, each[0]), 0);
            Due.same("its need", y.ends(0, 11, LEAST), 3000 + each[1] - 1);
        }
        TermReckoner z = one();
        z.term(0, 0, 0, 100);
        z.grant(0, 99);
        Due.same("of one day a thousandth", z.recall(0, 1, 3599, 1), 0);
        Due.same("is one", z.ends(0, 1, LEAST), 3599);
        TermReckoner whole = one();
        whole.grant(0, 0);
        whole.term(0, 0, 3599, 1);
        Due.same("of 3600 days all", whole.recall(0, 1, 1, 1000), 0);
        Due.same("that does not end", whole.ends(0, 1, LEAST), NONE);
        whole.stay(0, 2, CREDIT, 0, 0, set(1));
        Due.same("with a day of credit it does", whole.ends(0, 1, LEAST), 3599);
        TermReckoner known = one();
        known.term(0, 0, 0, 50);
        known.grant(0, 30);
        known.today(5);
        known.term(0, 1, 0, 70);
        known.as(0);
        Due.same("as known TODAY", known.recall(0, 2, 200, 1000), 0);
        known.as(NONE);
        Due.same("40 days, not 20", known.ends(0, 2, LEAST), 239);
        known.today(6);
        known.quash(0, 3, 1);
        Due.same("its need stays when FULL is another", known.ends(0, 2, LEAST), 239);
        known.as(4);
        Due.same("it is not known ahead of its day", known.kind(0, 2), 0);
    }

    private static void over() {
        Doc.says("OVER: days not behind the day AS KNOWN on which is asked, from FULL on (LEAST; none if that is never), that"
                + " a ROW tells as held (of MONTHS that are not OPEN).");
        TermReckoner x = one();
        x.term(0, 0, 0, 35);
        x.month(0, 0, false, 30);
        x.month(0, 1, false, 30);
        x.month(0, 2, true, 30);
        x.month(0, 3, true, 29);
        x.tear(0, 4);
        x.month(0, 6, false, 30);
        for (int k = 1; k < 30; k++) {
            x.held(0, 6, k, 0);
        }
        Due.same("on day 0", x.over(0), 0);
        int[] days = {34, 35, 36, 59, 60, 89, 90, 119, 149, 179, 180, 181, 3599};
        int[] dues = {0, 1, 2, 25, 26, 55, 55, 55, 55, 55, 56, 56, 56};
        for (int i = 0; i < days.length; i++) {
            x.today(days[i]);
            Due.same("on day " + days[i], x.over(0), dues[i]);
        }
        x.as(40);
        Due.same("as known on day 40", x.over(0), 6);
        x.as(34);
        Due.same("as known on day 34", x.over(0), 0);
        x.as(NONE);
        x.held(0, 1, 5, 0);
        Due.same("day 35 told as not held: it does not end later", x.over(0), 55);
        x.held(0, 1, 4, 0);
        Due.same("day 34 told as not held: it ends on day 36", x.over(0), 54);
        x.waits(0, 1, LIFE, 0, 1, 0);
        Due.same("full is never", x.over(0), 0);
        TermReckoner y = one();
        y.term(0, 0, 0, 20);
        y.tear(0, 0);
        y.month(0, 1, false, 30);
        y.today(100);
        // LEAST: FULL is 20. MOST were 50.
        Due.same("least", y.over(0), 30);
        TermReckoner z = one();
        z.month(0, 0, false, 30);
        Due.same("without an order FULL is day 0, and so is TODAY", z.over(0), 1);
        z.month(0, 119, false, 30);
        z.today(3599);
        Due.same("to the last day", z.over(0), 60);
        z.term(0, 0, 3599, 1);
        Due.same("full is 3600", z.over(0), 0);
    }

    private static void quashedAreNone() {
        Doc.says("In all of IV QUASHED ORDERS count as none");
        TermReckoner x = one();
        x.term(0, 0, 0, 20);
        x.term(0, 1, 0, 200);
        x.waits(0, 2, LIFE, 0, 300, 0);
        x.quash(0, 3, 2);
        x.quash(0, 4, 1);
        Due.same("full", x.full(0, LEAST), 20);
        Due.same("watched", x.watched(0, 1000, LEAST), 19);
        Due.same("a grant", x.grant(0, 9), 0);
        Due.same("a recall", x.recall(0, 5, 10, 1000), 0);
        Due.same("of 11 days", x.ends(0, 5, LEAST), 20);
        x.quash(0, 6, 0);
        x.quash(0, 7, 5);
        x.month(0, 0, false, 30);
        x.today(50);
        Due.same("over from day 0 on", x.over(0), 30);
        Due.same("full of quashed ones alone", x.full(0, LEAST), 0);
        Due.same("watched of quashed ones alone", x.watched(0, 1000, LEAST), 0);
        Due.same("a grant on day 0", x.grant(0, 0), 0);
        Due.same("full, day 0, is not behind that", x.recall(0, 8, 10, 1000), 8);
    }

    private static void latestGrant() {
        Doc.says("the latest GRANT is the one that was told last.");
        TermReckoner x = of(2);
        x.term(0, 0, 0, 100);
        x.term(1, 0, 0, 100);
        x.grant(0, 90);
        x.today(3);
        x.grant(0, 60);
        x.grant(1, 80);
        // From 60 to 100, not from 90.
        Due.same("not the greatest day", x.recall(0, 1, 70, 1000), 0);
        Due.same("40 days", x.ends(0, 1, LEAST), 109);
        Due.same("another person's is another: on its day", x.recall(1, 1, 80, 1000), 8);
        Due.same("another person's is another", x.recall(1, 1, 81, 1000), 0);
        Due.same("20 days", x.ends(1, 1, LEAST), 100);
        x.grant(0, 100);
        Due.same("the last is ahead of the day", x.recall(0, 2, 100, 1000), 8);
        x.as(2);
        Due.same("told is by the latest known TODAY", x.recall(0, 2, 95, 1000), 8);
        Due.same("behind that", x.recall(0, 2, 101, 1000), 0);
        x.as(NONE);
        // FULL was 110.
        Due.same("10 days", x.ends(0, 2, LEAST), 110);
    }

    private static void reasons() {
        Doc.says("REASONS of a day for a PLACE (LEAST): 0 it COUNTS, as held; 1 it COUNTS by a CREDIT; 2 the ORDER has not"
                + " BEGUN; 3 it has ENDED ahead; 4 a STAY; 5 not held; 6 it is QUASHED; 7 there is no ORDER that RUNS.");
        TermReckoner x = one();
        x.term(0, 0, 10, 10);
        x.letter(0, 1);
        x.stay(0, 2, STAY, 12, 12, set(0));
        x.stay(0, 3, CREDIT, 4, 4, set(0));
        x.month(0, 0, false, 30);
        x.held(0, 0, 13, 0);
        Due.same("its last day ahead of its begin", x.why(0, 0, 9), 2);
        Due.same("its begin", x.why(0, 0, 10), 0);
        Due.same("a stay", x.why(0, 0, 12), 4);
        Due.same("a credit", x.why(0, 0, 4), 1);
        Due.same("not held", x.why(0, 0, 13), 5);
        // 4, 10, 11, 14 to 20.
        Due.same("its end", x.why(0, 0, 20), 0);
        Due.same("behind its end", x.why(0, 0, 21), 3);
        for (int place : new int[] {1, 2, 3, 4}) {
            Due.same("no order that runs in place " + place, x.why(0, place, 10), 7);
        }
        x.tear(0, 0);
        Due.same("least: an open month is held", x.why(0, 0, 13), 0);
        x.waits(0, 6, BEHIND, 0, 10, set(0));
        // LEAST: 4, 10, 11, 13 to 19; behind that 20 to 29. MOST: 4, 30 to 38; behind that 39 to 48.
        Due.same("least: the end", x.why(0, 0, 20), 3);
        Due.same("least: the last day ahead of the begin", x.why(0, 6, 19), 2);
        Due.same("least: the begin", x.why(0, 6, 20), 0);
        Due.same("least: behind the end of that", x.why(0, 6, 39), 3);
        x.quash(0, 5, 0);
        Due.same("quashed", x.why(0, 0, 13), 6);
        Due.same("no order that runs in its quash's place", x.why(0, 5, 13), 7);
    }

    private static void orderOfReasons() {
        Doc.says("Of these 7, 6, 3, 4, 1, 2, 5, 0 in this order, the first that holds.");
        TermReckoner x = one();
        x.stay(0, 0, STAY, 0, 50, ALL);
        x.quash(0, 1, 0);
        Due.same("7 ahead of 6", x.why(0, 0, 3), 7);
        x.term(0, 2, 0, 5);
        x.quash(0, 3, 2);
        x.stay(0, 4, STAY, 20, 40, ALL);
        Due.same("6 ahead of what would be 3 and 4", x.why(0, 2, 30), 6);
        Due.same("6 ahead of what would be 0", x.why(0, 2, 0), 6);
        x.term(0, 5, 0, 10);
        Due.same("3 ahead of 4", x.why(0, 5, 20), 3);
        x.stay(0, 6, CREDIT, 15, 45, set(5, 7));
        Due.same("3 ahead of 1", x.why(0, 5, 15), 3);
        x.term(0, 7, 42, 100);
        Due.same("4 ahead of 1 and 2", x.why(0, 7, 30), 4);
        Due.same("1 ahead of 2", x.why(0, 7, 41), 1);
        Due.same("1 ahead of 0", x.why(0, 7, 42), 1);
        x.month(0, 1, false, 30);
        x.held(0, 1, 13, 0);
        x.held(0, 1, 20, 0);
        x.held(0, 1, 5, 0);
        Due.same("1 ahead of 5", x.why(0, 7, 43), 1);
        Due.same("5 ahead of 0", x.why(0, 7, 50), 5);
        x.term(0, 8, 51, 1);
        Due.same("2 ahead of 5", x.why(0, 8, 50), 2);
        Due.same("4 ahead of 5", x.why(0, 7, 35), 4);
        x.month(0, 0, false, 30);
        x.held(0, 0, 12, 0);
        Due.same("3 ahead of 5", x.why(0, 5, 12), 3);
        TermReckoner y = one();
        y.term(0, 0, 100, 3);
        y.stay(0, 1, CREDIT, 10, 12, set(0));
        Due.same("3 ahead of 2", y.why(0, 0, 13), 3);
    }

    private static void by() {
        Doc.says("BY: the PLACE of the STAY, CREDIT, QUASH (the least of several), else NONE.");
        TermReckoner x = one();
        x.term(0, 5, 10, 50);
        x.stay(0, 11, STAY, 20, 22, set(5));
        x.stay(0, 9, STAY, 21, 23, set(5));
        x.stay(0, 0, STAY, 22, 22, set(6));
        x.stay(0, 1, CREDIT, 23, 25, set(5));
        x.stay(0, 10, CREDIT, 4, 6, set(5));
        x.stay(0, 8, CREDIT, 5, 7, set(5));
        int[] days = {3, 4, 5, 6, 7, 8, 19, 20, 21, 22, 23, 24, 25, 26, 200};
        int[] dues = {-1, 10, 8, 8, 8, -1, -1, 11, 9, 9, 9, 1, 1, -1, -1};
        for (int i = 0; i < days.length; i++) {
            Due.same("by on day " + days[i], x.by(0, 5, days[i]), dues[i]);
        }
        Due.same("by of a stay's place", x.by(0, 11, 20), NONE);
        Due.same("by of nothing", x.by(0, 2, 20), NONE);
        x.quash(0, 3, 9);
        Due.same("a quashed stay is none", x.by(0, 5, 21), 11);
        Due.same("a credit where only a quashed stay was", x.by(0, 5, 23), 1);
        x.quash(0, 4, 8);
        Due.same("a quashed credit is none", x.by(0, 5, 5), 10);
        Due.same("nor is it where it was alone", x.by(0, 5, 7), NONE);
        x.quash(0, 7, 5);
        Due.same("the quash", x.by(0, 5, 21), 7);
        Due.same("on each day", x.by(0, 5, 3599), 7);
        Due.same("of day 0", x.by(0, 5, 0), 7);
        TermReckoner y = one();
        y.term(0, 5, 0, 10);
        y.quash(0, 0, 5);
        Due.same("a quash in place 0", y.by(0, 5, 0), 0);
        y.term(0, 6, 0, 10);
        y.stay(0, 1, STAY, 3, 3, set(6));
        y.stay(0, 2, CREDIT, 30, 30, set(6));
        Due.same("by is of the place that is asked", y.by(0, 6, 3), 1);
        Due.same("a credit behind the end is none", y.by(0, 6, 30), NONE);
    }
}
