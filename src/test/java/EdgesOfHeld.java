/** The document's Terms III (held, counted, taken off, given back, ended; open months), sentence by sentence. */
final class EdgesOfHeld extends EdgesBase {
    private EdgesOfHeld() {
    }

    static void all() {
        Doc.section("III");
        Doc.namesNoEdge("HELD.");
        plainMonths();
        rows();
        openMonths();
        counts();
        rules();
        cutDown();
        left();
        latestRule();
        upToTheDayAsked();
        givenBack();
        ends();
        leastAndMost();
    }

    /** A LIFE from day 0 on: what COUNTS for it are the days held. */
    private static TermReckoner life() {
        TermReckoner x = one();
        x.waits(0, 0, LIFE, 0, 1, 0);
        return x;
    }

    private static void plainMonths() {
        Doc.says("A MONTH of a person is PLAIN at first: the person is held on all its days.");
        TermReckoner x = life();
        Due.same("all days of all months", x.counted(0, 0, 3599, LEAST), 3600);
        Due.same("also at most", x.counted(0, 0, 3599, MOST), 3600);
        for (int month = 0; month < 120; month++) {
            Due.same("month " + month + " is not open", x.open(0, month), 0);
        }
        Due.same("it is no row", x.held(0, 0, 0, 1), 6);
        Due.same("nor told by one as held", x.over(0), 0);
    }

    private static void rows() {
        Doc.says("It may be told as a ROW of bytes (shorts), a number for each day: 0 not held, else held");
        int[] bytes = {0, 1, -1, 2, 127, -127, -128, 64};
        int[] shorts = {0, 1, -1, 128, 255, 256, -256, 512, 4096, 32767, -32768, 16384, -129};
        for (boolean wide : new boolean[] {false, true}) {
            for (int v : wide ? shorts : bytes) {
                TermReckoner x = life();
                x.month(0, 2, wide, 30);
                x.held(0, 2, 7, 0);
                Due.same("told is " + v, x.held(0, 2, 7, v), 0);
                Due.same("its day", x.why(0, 0, 67), v == 0 ? 5 : 0);
                Due.same("the days about it", x.check(0, 0, 60, v == 0 ? ~(1 << 7) : -1), NONE);
            }
        }
        TermReckoner y = life();
        y.month(0, 0, false, 30);
        for (int k = 0; k < 30; k++) {
            y.held(0, 0, k, 0);
        }
        Due.same("a month of none", y.counted(0, 0, 29, LEAST), 0);
        Due.same("the day behind it", y.counted(0, 0, 30, LEAST), 1);
        y.held(0, 0, 0, 1);
        y.held(0, 0, 29, 1);
        Due.same("the first and the last", y.check(0, 0, 0, 1 | 1 << 29 | 3 << 30), NONE);
    }

    private static void openMonths() {
        Doc.says("a ROW of fewer than 30 leaves the MONTH OPEN, as does a MONTH that is TORN: each of its days may be held or"
                + " not.");
        for (int n : new int[] {0, 1, 15, 28, 29, 30}) {
            for (boolean wide : new boolean[] {false, true}) {
                TermReckoner x = life();
                x.month(0, 1, wide, n);
                boolean open = n < 30;
                Due.same("a row of " + n, x.open(0, 1), open ? 1 : 0);
                Due.same("all may be held", x.counted(0, 0, 89, LEAST), 90);
                Due.same("all may not be", x.counted(0, 0, 89, MOST), open ? 60 : 90);
            }
        }
        TermReckoner y = life();
        y.month(0, 1, false, 29);
        y.held(0, 1, 4, 0);
        Due.same("a day of a short row told as not held may be held", y.why(0, 0, 34), 0);
        Due.same("all 30 days of it", y.counted(0, 0, 89, LEAST), 90);
        y.month(0, 1, false, 30);
        Due.same("a whole row is not open", y.open(0, 1), 0);
        y.held(0, 1, 4, 0);
        y.tear(0, 1);
        Due.same("a torn month is", y.open(0, 1), 1);
        Due.same("its day may be held", y.why(0, 0, 34), 0);
        Due.same("or not", y.counted(0, 0, 89, MOST), 60);
    }

    private static void counts() {
        Doc.says("A day COUNTS for an ORDER that RUNS and is not QUASHED, if no STAY (that is not QUASHED) has it for the"
                + " ORDER, and the ORDER has not ENDED ahead of it, and a CREDIT (likewise) has it for the ORDER, or the"
                + " ORDER has BEGUN (its BEGIN is not behind the day) and the person is held.");
        TermReckoner x = one();
        x.term(0, 0, 10, 10);
        Due.same("the day ahead of its begin", x.counted(0, 0, 9, LEAST), 0);
        Due.same("its begin", x.counted(0, 0, 10, LEAST), 1);
        Due.same("it ends on a day that counts", x.why(0, 0, 19), 0);
        Due.same("the day behind does not", x.why(0, 0, 20), 3);
        Due.same("all together", x.check(0, 0, 0, 0b11_1111_1111 << 10), NONE);
        x.stay(0, 1, STAY, 12, 13, set(0));
        Due.same("but for a stay", x.check(0, 0, 0, 0b1111_1111_0011 << 10), NONE);
        x.stay(0, 2, CREDIT, 13, 14, set(0));
        Due.same("a stay takes away a credit", x.check(0, 0, 0, 0b1111_1111_0011 << 10), NONE);
        x.stay(0, 3, CREDIT, 2, 3, set(0));
        Due.same("a credit ahead of the begin", x.check(0, 0, 0, 0b11 << 2 | 0b11_1111_0011 << 10), NONE);
        x.stay(0, 4, CREDIT, 19, 23, set(0));
        Due.same("a credit on the end and behind it", x.check(0, 0, 0, 0b11 << 2 | 0b11_1111_0011 << 10), NONE);
        x.month(0, 0, false, 30);
        x.held(0, 0, 14, 0);
        x.held(0, 0, 15, 0);
        Due.same("not held, but credited", x.check(0, 0, 0, 0b11 << 2 | 0b111_1101_0011 << 10), NONE);
        x.quash(0, 5, 1);
        Due.same("the stay is quashed", x.check(0, 0, 0, 0b11 << 2 | 0b1_1101_1111 << 10), NONE);
        x.quash(0, 6, 3);
        Due.same("a credit is quashed", x.check(0, 0, 0, 0b111_1101_1111 << 10), NONE);
        x.quash(0, 7, 0);
        Due.same("the order is quashed", x.counted(0, 0, 3599, LEAST), NONE);
    }

    private static void rules() {
        Doc.says("TAKEN OFF: an ORDER (TERM, BEHIND, BESIDE) may have a RULE");
        for (int kind = 2; kind <= 5; kind++) {
            TermReckoner x = one();
            if (kind == 2) {
                x.term(0, 0, 0, 9);
            } else {
                x.waits(0, 0, kind, 0, 9, 0);
            }
            Due.same("without a rule nothing is taken", x.taken(0, 0, 3599), 0);
            Due.same("a rule of kind " + kind, x.off(0, 0, 2, 0), kind == 5 ? 5 : 0);
            // d + d / 2 >= 9 first where d is 6.
            Due.same("its end", x.ends(0, 0, LEAST), kind == 5 ? NONE : 5);
            Due.same("taken", x.taken(0, 0, 3599), kind == 5 ? 0 : 3);
        }

        Doc.says("of each unbroken row of days that COUNT one in so many");
        TermReckoner y = one();
        y.term(0, 0, 5, 1000);
        y.off(0, 0, 10, 0);
        Due.same("a row goes over a month's edge", y.taken(0, 0, 34), 3);
        Due.same("and over many", y.taken(0, 0, 104), 10);
        y.stay(0, 1, STAY, 14, 14, set(0));
        Due.same("a stay breaks it: 9 days", y.taken(0, 0, 13), 0);
        Due.same("nine days ahead do not help", y.taken(0, 0, 15), 0);
        Due.same("ten days behind the stay: 15 to 24", y.taken(0, 0, 24), 1);
        Due.same("one day fewer", y.taken(0, 0, 23), 0);
        y.month(0, 1, false, 30);
        y.held(0, 1, 0, 0);
        // 15 to 29 are 15 days, 31 to 40 are 10.
        Due.same("a day not held breaks it", y.taken(0, 0, 39), 1);
        Due.same("ten days behind it", y.taken(0, 0, 40), 2);
        y.stay(0, 2, CREDIT, 30, 30, set(0));
        // 15 to 39 are 25 days: 2; 34 is the twentieth.
        Due.same("a credit mends it", y.taken(0, 0, 34), 2);
        Due.same("the nineteenth day", y.taken(0, 0, 33), 1);
        y.stay(0, 3, CREDIT, 0, 4, set(0));
        Due.same("a credit up to its begin is in the row: 0 to 13", y.taken(0, 0, 13), 1);
        y.stay(0, 4, STAY, 4, 4, set(0));
        Due.same("unless that is stayed: 0 to 3, 5 to 13", y.taken(0, 0, 13), 0);
        TermReckoner z = one();
        z.term(0, 0, 0, 1000);
        z.off(0, 0, 10, 0);
        z.month(0, 0, false, 30);
        z.held(0, 0, 29, 0);
        Due.same("29 days", z.taken(0, 0, 29), 2);
        Due.same("29 and 9 days", z.taken(0, 0, 38), 2);
        Due.same("29 and 10 days", z.taken(0, 0, 39), 3);
        for (int k = 0; k < 30; k++) {
            z.held(0, 0, k, 0);
        }
        z.held(0, 0, 28, 1);
        z.stay(0, 1, STAY, 30, 59, set(0));
        Due.same("a month of none breaks it, too: 28, 60 to 68", z.taken(0, 0, 68), 0);
        Due.same("60 to 69", z.taken(0, 0, 69), 1);
    }

    private static void cutDown() {
        Doc.says("(2 to 100; cut down)");
        for (int k : new int[] {2, 3, 7, 29, 30, 31, 60, 99, 100}) {
            TermReckoner x = one();
            x.term(0, 0, 0, 3000);
            x.off(0, 0, k, 0);
            Due.same("one day short of " + k, x.taken(0, 0, k - 2), 0);
            Due.same("just " + k, x.taken(0, 0, k - 1), 1);
            Due.same("one more", x.taken(0, 0, k), 1);
            Due.same("one short of twice", x.taken(0, 0, 2 * k - 2), 1);
            Due.same("twice", x.taken(0, 0, 2 * k - 1), 2);
            x.stay(0, 1, STAY, 2 * k - 1, 2 * k - 1, set(0));
            // Rows of 2k - 1 and then k - 1 days: each is cut down by itself.
            Due.same("two rows short of it", x.taken(0, 0, 3 * k - 2), 1);
            Due.same("the second is not", x.taken(0, 0, 3 * k - 1), 2);
        }
        refused("one in 1", 3, EdgesOfHeld::tellTerm, x -> x.off(0, 0, 1, 0));
        refused("one in 101", 3, EdgesOfHeld::tellTerm, x -> x.off(0, 0, 101, 0));
    }

    private static void tellTerm(TermReckoner x) {
        x.person();
        x.term(0, 0, 0, 300);
    }

    private static void left() {
        Doc.says("but no more than leaves LEFT, THOUSANDTHS of its NEED");
        // NEED, LEFT, how many may be TAKEN: NEED less LEFT, which is rounded up.
        int[][] cases = {{10, 0, 10}, {10, 1, 9}, {10, 100, 9}, {10, 101, 8}, {10, 500, 5}, {10, 501, 4}, {10, 900, 1},
            {10, 901, 0}, {10, 999, 0}, {10, 1000, 0}, {1, 0, 1}, {1, 1, 0}, {3, 333, 2}, {3, 334, 1}, {3600, 999, 3},
            {3600, 1000, 0}};
        for (int[] each : cases) {
            TermReckoner x = one();
            x.term(0, 0, 0, each[0]);
            Due.same("the rule", x.off(0, 0, 2, each[1]), 0);
            // It ends on the first day on which d + min(d / 2, most) >= NEED.
            int d = 1;
            while (d + Math.min(d / 2, each[2]) < each[0]) {
                d++;
            }
            String what = each[1] + " left of " + each[0];
            Due.same(what + ", its end", x.ends(0, 0, LEAST), d - 1);
            Due.same(what + ", taken in all", x.taken(0, 0, 3599), Math.min(d / 2, each[2]));
        }
        TermReckoner y = one();
        y.term(0, 0, 0, 100);
        y.off(0, 0, 2, 950);
        Due.same("nine days: four", y.taken(0, 0, 8), 4);
        Due.same("ten days: five", y.taken(0, 0, 9), 5);
        Due.same("twelve days: five", y.taken(0, 0, 11), 5);
        y.stay(0, 1, STAY, 4, 4, set(0));
        // 0 to 3 and 5 on: 2, and then 3 more.
        Due.same("the rows have it together", y.taken(0, 0, 30), 5);
    }

    private static void latestRule() {
        Doc.says("the latest RULE counts for all days");
        TermReckoner x = one();
        x.term(0, 0, 0, 1000);
        x.today(50);
        x.off(0, 0, 2, 0);
        Due.same("also for days ahead of it", x.taken(0, 0, 9), 5);
        x.today(60);
        x.off(0, 0, 10, 0);
        Due.same("the later one, on an early day", x.taken(0, 0, 9), 1);
        Due.same("not both", x.taken(0, 0, 59), 6);
        x.off(0, 0, 5, 999);
        Due.same("the latest of a day, with its own left", x.taken(0, 0, 500), 1);
        x.off(0, 0, 20, 0);
        Due.same("also one that takes less often", x.taken(0, 0, 500), 25);
        x.as(50);
        Due.same("as known on day 50", x.taken(0, 0, 9), 5);
        x.as(49);
        Due.same("as known on day 49", x.taken(0, 0, 9), 0);
    }

    private static void upToTheDayAsked() {
        Doc.says("a row counts as far as it goes up to the day asked.");
        TermReckoner x = one();
        x.term(0, 0, 3, 40);
        x.off(0, 0, 4, 0);
        for (int day = 0; day < 3; day++) {
            Due.same("ahead of it", x.taken(0, 0, day), 0);
        }
        // d + d / 4 >= 40 first where d is 32: its last day is 34.
        for (int day = 3; day <= 34; day++) {
            Due.same("up to day " + day, x.taken(0, 0, day), (day - 2) / 4);
        }
        Due.same("its end", x.ends(0, 0, LEAST), 34);
        Due.same("behind its end", x.taken(0, 0, 35), 8);
        Due.same("far behind it", x.taken(0, 0, 3599), 8);
        TermReckoner y = one();
        y.term(0, 0, 3590, 100);
        y.off(0, 0, 11, 0);
        Due.same("ten days up to the last one, one in 11", y.taken(0, 0, 3599), 0);
        y.off(0, 0, 10, 0);
        Due.same("ten days up to the last one, one in 10", y.taken(0, 0, 3599), 1);
        Due.same("nine days up to the one ahead", y.taken(0, 0, 3598), 0);
    }

    private static void givenBack() {
        Doc.says("GIVEN BACK are so many days of these: OFF on a day is what is TAKEN then (up to that day), less GIVEN, and"
                + " 0 at least.");
        for (int given = 0; given <= 5; given++) {
            TermReckoner x = one();
            x.term(0, 0, 0, 30);
            x.off(0, 0, 4, 0);
            x.today(20);
            Due.same("given back " + given, x.back(0, 0, given), 0);
            int d = 1;
            while (d + Math.max(0, d / 4 - given) < 30) {
                d++;
            }
            Due.same("its end with " + given, x.ends(0, 0, LEAST), d - 1);
            Due.same("taken is before what is given", x.taken(0, 0, 20), 5);
        }
        TermReckoner y = one();
        y.term(0, 0, 0, 30);
        y.off(0, 0, 2, 0);
        y.today(19);
        y.back(0, 0, 10);
        // Given are 10. One in 10 takes 1, 2, 3: OFF is 0 at least, so it ends where 30 have counted.
        y.off(0, 0, 10, 0);
        Due.same("more given than taken: as if none were taken", y.ends(0, 0, LEAST), 29);
        y.off(0, 0, 100, 0);
        Due.same("nothing taken", y.ends(0, 0, LEAST), 29);
        y.off(0, 0, 2, 0);
        // d + d / 2 - 10 >= 30 first where d is 27.
        Due.same("more taken than given", y.ends(0, 0, LEAST), 26);
        y.today(21);
        y.back(0, 0, 1);
        // d + d / 2 - 11 >= 30 first where d is 28.
        Due.same("one more of a later day", y.ends(0, 0, LEAST), 27);
        TermReckoner z = one();
        z.term(0, 0, 0, 30);
        z.off(0, 0, 2, 900);
        z.today(29);
        z.back(0, 0, 2);
        // Three may be taken, one is left of them.
        Due.same("given of what is left to be taken", z.ends(0, 0, LEAST), 28);
    }

    private static void ends() {
        Doc.says("An ORDER ENDS on the first day on which days that have COUNTED and OFF together are not less than NEED (a"
                + " LIFE never)");
        TermReckoner x = one();
        x.term(0, 0, 0, 1);
        x.term(0, 1, 0, 2);
        x.term(0, 2, 0, 31);
        Due.same("on its first day", x.ends(0, 0, LEAST), 0);
        Due.same("on its second day", x.ends(0, 1, LEAST), 1);
        Due.same("on the first of a month", x.ends(0, 2, LEAST), 30);
        x.off(0, 1, 2, 0);
        // 1 on its first day, 2 and 1 on its second: more than 2.
        Due.same("more than it needs", x.ends(0, 1, LEAST), 1);
        Due.same("all that have counted", x.counted(0, 1, 3599, LEAST), 2);
        x.off(0, 2, 30, 0);
        // 30 days on day 29 and 1 taken are just 31.
        Due.same("just what it needs, on a month's last day", x.ends(0, 2, LEAST), 29);
        for (int need = 1; need <= 3600; need += need < 130 ? 1 : 347) {
            TermReckoner y = one();
            y.term(0, 0, 0, need);
            Due.same("the end of " + need + " days", y.ends(0, 0, LEAST), need - 1);
            y.off(0, 0, 7, 0);
            int d = 1;
            while (d + d / 7 < need) {
                d++;
            }
            Due.same("the end of " + need + " days, one in seven taken off", y.ends(0, 0, LEAST), d - 1);
        }
        TermReckoner life = one();
        life.waits(0, 0, LIFE, 0, 1, 0);
        life.stay(0, 1, CREDIT, 0, 3599, ALL);
        Due.same("a life", life.ends(0, 0, LEAST), NONE);

        Doc.says("where there is none such up to 3599, never.");
        TermReckoner z = one();
        z.term(0, 0, 0, 3600);
        z.term(0, 1, 1, 3600);
        z.term(0, 2, 3599, 1);
        z.term(0, 3, 3599, 2);
        z.term(0, 4, 100, 3500);
        z.term(0, 5, 100, 3501);
        Due.same("all 3600 days", z.ends(0, 0, LEAST), 3599);
        Due.same("one day is wanting", z.ends(0, 1, LEAST), NONE);
        Due.same("the last day", z.ends(0, 2, LEAST), 3599);
        Due.same("two of it", z.ends(0, 3, LEAST), NONE);
        Due.same("3500 days from day 100", z.ends(0, 4, LEAST), 3599);
        Due.same("3501 days from day 100", z.ends(0, 5, LEAST), NONE);
        z.stay(0, 6, STAY, 50, 50, set(0));
        Due.same("a stay takes one of all", z.ends(0, 0, LEAST), NONE);
        z.stay(0, 7, CREDIT, 0, 0, set(1, 3, 5));
        Due.same("a credit gives the one that was wanting", z.ends(0, 1, LEAST), 3599);
        Due.same("on a day of its own", z.ends(0, 3, LEAST), 3599);
        Due.same("and here", z.ends(0, 5, LEAST), 3599);
    }

    private static void leastAndMost() {
        Doc.says("WITH OPEN MONTHS: LEAST: as if all their days were held; MOST: as if none were.");
        TermReckoner x = one();
        x.term(0, 0, 20, 40);
        x.waits(0, 1, BEHIND, 0, 10, set(0));
        x.waits(0, 2, BESIDE, 0, 10, set(1));
        x.tear(0, 1);
        x.month(0, 3, true, 29);
        // LEAST: 20 to 59. MOST: 20 to 29, 60 to 89.
        Due.same("least: the end", x.ends(0, 0, LEAST), 59);
        Due.same("most: the end", x.ends(0, 0, MOST), 89);
        Due.same("least: behind it", x.begins(0, 1, LEAST), 60);
        Due.same("most: behind it", x.begins(0, 1, MOST), 90);
        Due.same("least: its end", x.ends(0, 1, LEAST), 69);
        Due.same("most: its end, month 3 is open", x.ends(0, 1, MOST), 129);
        Due.same("most: beside it", x.begins(0, 2, MOST), 90);
        Due.same("least: full", x.full(0, LEAST), 70);
        Due.same("most: full", x.full(0, MOST), 130);
        Due.same("least: counted", x.counted(0, 0, 59, LEAST), 40);
        Due.same("most: counted", x.counted(0, 0, 59, MOST), 10);
        x.stay(0, 3, CREDIT, 30, 34, set(0));
        Due.same("a credit in an open month counts for most, too", x.counted(0, 0, 59, MOST), 15);
        Due.same("and once for least", x.counted(0, 0, 59, LEAST), 40);
        TermReckoner y = one();
        y.term(0, 0, 0, 1);
        y.term(0, 1, 0, 1);
        for (int month = 0; month < 120; month++) {
            y.tear(0, month);
        }
        Due.same("all months open: least", y.ends(0, 0, LEAST), 0);
        Due.same("all months open: most", y.ends(0, 0, MOST), NONE);
        Due.same("most: never full", y.full(0, MOST), NONE);
        y.stay(0, 2, CREDIT, 3599, 3599, ALL);
        Due.same("most: by credit", y.ends(0, 1, MOST), 3599);
        TermReckoner z = one();
        z.term(0, 0, 0, 100);
        z.off(0, 0, 31, 0);
        z.tear(0, 1);
        // LEAST: one row: d + d / 31 >= 100 first where d is 97. MOST: a row of 30, one from 60 on: d + (d - 30) / 31.
        Due.same("a row through an open month: least", z.ends(0, 0, LEAST), 96);
        Due.same("it is broken there: most", z.ends(0, 0, MOST), 127);
    }
}
