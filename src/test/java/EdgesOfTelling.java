import java.util.function.ToIntFunction;

/** The document's Promises 1 to 17 (a new object, persons, days, and all calls that tell something), sentence by sentence. */
final class EdgesOfTelling extends EdgesBase {
    private EdgesOfTelling() {
    }

    static void all() {
        newObject();
        person();
        today();
        as();
        letter();
        term();
        waits();
        stay();
        quash();
        month();
        held();
        tear();
        copy();
        off();
        back();
        grant();
        recall();
    }

    /**
     * One person with 400 ENTRIES: place 0 a TERM with a RULE, place 1 a LETTER, months 0 and 1 ROWS (the second wide), a
     * GRANT on day 60; places 2 to 11 have nothing.
     */
    private static void tellAll(TermReckoner x) {
        x.person();
        x.term(0, 0, 0, 100);
        x.off(0, 0, 5, 0);
        x.letter(0, 1);
        x.month(0, 0, false, 20);
        x.month(0, 1, true, 30);
        x.grant(0, 60);
        fill(x, 400);
    }

    /** The same, but with one ENTRY less: one more may be told. */
    private static void tellAllButOne(TermReckoner x) {
        x.person();
        x.term(0, 0, 0, 100);
        x.off(0, 0, 5, 0);
        x.letter(0, 1);
        x.month(0, 0, false, 20);
        x.month(0, 1, true, 30);
        x.grant(0, 60);
        fill(x, 399);
    }

    /** The call is told as the 400th ENTRY, and refused as the 401st with 7. */
    private static void lastEntry(String what, ToIntFunction<TermReckoner> call) {
        TermReckoner x = new TermReckoner();
        tellAllButOne(x);
        Due.same(what + " as the 400th entry", call.applyAsInt(x), 0);
        Due.same("entries", x.count(2), 400);
        refused(what + " as the 401st", 7, EdgesOfTelling::tellAll, call);
    }

    /** What stands in a registry with few ENTRIES, so that a refused call has something to spoil. */
    private static void tellSome(TermReckoner x) {
        x.person();
        x.person();
        x.term(0, 0, 0, 100);
        x.off(0, 0, 5, 0);
        x.letter(0, 1);
        x.waits(0, 2, LIFE, 50, 10, 0);
        x.stay(0, 3, STAY, 10, 12, set(0));
        x.stay(0, 4, CREDIT, 11, 14, set(2));
        x.term(0, 5, 0, 9);
        x.quash(0, 6, 5);
        x.waits(0, 7, BEHIND, 0, 20, set(8));
        x.month(0, 0, false, 20);
        x.month(0, 1, true, 30);
        x.tear(0, 2);
        x.term(1, 0, 0, 10);
        x.grant(1, 4);
        x.today(20);
    }

    private static void newObject() {
        Doc.section("Promise 1");
        Doc.says("TODAY 0, no persons.");
        TermReckoner x = new TermReckoner();
        Due.same("today", x.count(0), 0);
        Due.same("persons", x.count(1), 0);
        Due.same("entries", x.count(2), 0);
        Due.same("the day asked", x.count(3), 0);
        Due.same("person 0 is not there", x.letter(0, 0), 1);
        Due.same("nor its file", x.kind(0, 0), NONE);
        Due.same("nor an entry", x.image(0, 0), NONE);
        Due.same("nor a ring", x.ring(0), NONE);
        new TermReckoner().person();
        Due.same("another object's person is none of it", x.count(1), 0);
    }

    private static void person() {
        Doc.section("Promise 2");
        Doc.says("One PERSON more: its number; NONE if there are 6.");
        TermReckoner x = new TermReckoner();
        for (int i = 0; i < 6; i++) {
            Due.same("person", x.person(), i);
        }
        Due.same("a seventh", x.person(), NONE);
        Due.same("an eighth", x.person(), NONE);
        Due.same("persons", x.count(1), 6);
        Due.same("the sixth is there", x.letter(5, 0), 0);
    }

    private static void today() {
        Doc.section("Promise 3");
        Doc.says("TODAY is a day, not ahead of what it was: true.");
        TermReckoner x = one();
        for (int day : new int[] {0, 0, 1, 1, 30, 3598, 3599, 3599}) {
            Due.same("today " + day, x.today(day), true);
            Due.same("is", x.count(0), day);
        }

        Doc.says("False, and nothing changes: it is ahead, or none.");
        for (int day : new int[] {LOW, -1, 0, 19, 3600, 3601, HIGH}) {
            refused("today " + day + " on day 20", 0, EdgesOfTelling::tellSome, y -> y.today(day) ? 1 : 0);
        }
        for (int day : new int[] {3598, 3600}) {
            Due.same("behind the last day", x.today(day), false);
            Due.same("it is that still", x.count(0), 3599);
        }
    }

    private static void as() {
        Doc.section("Promise 4");
        Doc.says("What is asked is asked AS KNOWN on a day (TODAY at most): 1;");
        TermReckoner x = one();
        x.today(20);
        for (int day : new int[] {0, 1, 19, 20, 0}) {
            Due.same("as " + day, x.as(day), 1);
            Due.same("the day", x.count(3), day);
        }

        Doc.says("NONE, and nothing changes: it is none such.");
        for (int day : new int[] {LOW, -3, -2, 21, 3599, 3600, HIGH}) {
            refused("as " + day + " on day 20", NONE, EdgesOfTelling::tellSome, y -> y.as(day));
            x.as(7);
            Due.same("as " + day, x.as(day), NONE);
            Due.same("the day is as it was", x.count(3), 7);
        }

        Doc.says("With NONE as the day: on TODAY again, also as that goes on: 1.");
        Due.same("as NONE", x.as(NONE), 1);
        Due.same("TODAY", x.count(3), 20);
        x.today(21);
        x.letter(0, 0);
        Due.same("as it goes on", x.count(3), 21);
        Due.same("its entries are known", x.kind(0, 0), 1);
        Due.same("NONE again", x.as(NONE), 1);
        Due.same("on TODAY", x.count(3), 21);
    }

    private static void letter() {
        Doc.section("Promise 5");
        Doc.says("A LETTER comes into a PLACE.");
        TermReckoner x = one();
        Due.same("into place 0", x.letter(0, 0), 0);
        Due.same("into place 11", x.letter(0, 11), 0);
        Due.same("there it is", x.kind(0, 0), 1);
        Due.same("and there", x.kind(0, 11), 1);

        Doc.says("STATUS: 0; 1 no such PERSON or PLACE; 2 the PLACE has something; 7 400 ENTRIES.");
        for (int wrong : new int[] {LOW, -1, 2, 12, HIGH}) {
            refused("of person " + wrong, 1, EdgesOfTelling::tellSome, y -> y.letter(wrong, 9));
        }
        for (int wrong : new int[] {LOW, -1, 12, HIGH}) {
            refused("into place " + wrong, 1, EdgesOfTelling::tellSome, y -> y.letter(0, wrong));
        }
        refused("where something is", 2, EdgesOfTelling::tellSome, y -> y.letter(0, 0));
        lastEntry("a letter", y -> y.letter(0, 9));

        Doc.says("(STATUS is what all calls that tell something answer: 0, and it is an ENTRY; or the least number that holds,"
                + " and nothing changes.)");
        TermReckoner y = new TermReckoner();
        tellSome(y);
        int before = y.count(2);
        int[] told = {y.letter(0, 8), y.term(0, 9, 0, 1), y.waits(0, 10, BEHIND, 0, 1, 0), y.stay(0, 11, STAY, 0, 0, 0),
            y.quash(1, 1, 0), y.month(1, 0, false, 30), y.held(1, 0, 0, 0), y.tear(1, 1), y.copy(1, 0, 1, 2),
            y.off(0, 0, 2, 0), y.back(0, 0, 0), y.grant(1, 3), y.term(1, 2, 0, 50), y.recall(1, 3, 30, 1)};
        for (int i = 0; i < told.length; i++) {
            Due.same("call " + i + " that tells", told[i], 0);
        }
        Due.same("each is an entry", y.count(2) - before, told.length);
        leastNumber();
    }

    private static void leastNumber() {
        refused("letter: 1 ahead of 7", 1, EdgesOfTelling::tellAll, x -> x.letter(1, 0));
        refused("letter: 2 ahead of 7", 2, EdgesOfTelling::tellAll, x -> x.letter(0, 1));
        refused("term: 1 ahead of 3", 1, EdgesOfTelling::tellSome, x -> x.term(0, 12, -1, 0));
        refused("term: 2 ahead of 3", 2, EdgesOfTelling::tellSome, x -> x.term(0, 0, -1, 0));
        refused("term: 3 ahead of 7", 3, EdgesOfTelling::tellAll, x -> x.term(0, 5, 0, 0));
        refused("waits: 1 ahead of 3", 1, EdgesOfTelling::tellSome, x -> x.waits(2, 8, 9, -1, 0, -1));
        refused("waits: 2 ahead of 3", 2, EdgesOfTelling::tellSome, x -> x.waits(0, 0, 9, -1, 0, -1));
        refused("waits: 2 ahead of 4", 2, EdgesOfTelling::tellSome, x -> x.waits(0, 0, BEHIND, 0, 1, 1));
        refused("waits: 3 ahead of 4", 3, EdgesOfTelling::tellSome, x -> x.waits(0, 8, BEHIND, 0, 0, set(7)));
        refused("waits: 3 ahead of 7", 3, EdgesOfTelling::tellAll, x -> x.waits(0, 8, 9, 0, 1, 0));
        refused("stay: 1 ahead of 3", 1, EdgesOfTelling::tellSome, x -> x.stay(0, -1, 9, -1, 0, -1));
        refused("stay: 2 ahead of 3", 2, EdgesOfTelling::tellSome, x -> x.stay(0, 1, 9, -1, 0, -1));
        refused("stay: 3 ahead of 7", 3, EdgesOfTelling::tellAll, x -> x.stay(0, 8, STAY, 1, 0, 0));
        refused("quash: 1 (of the other one) ahead of 2", 1, EdgesOfTelling::tellSome, x -> x.quash(0, 0, 12));
        refused("quash: 2 ahead of 5", 2, EdgesOfTelling::tellSome, x -> x.quash(0, 0, 1));
        refused("quash: 5 ahead of 7", 5, EdgesOfTelling::tellAll, x -> x.quash(0, 8, 1));
        refused("month: 1 ahead of 3", 1, EdgesOfTelling::tellSome, x -> x.month(0, 120, false, 31));
        refused("month: 3 ahead of 7", 3, EdgesOfTelling::tellAll, x -> x.month(0, 0, false, 31));
        refused("held: 1 ahead of 3 and 6", 1, EdgesOfTelling::tellSome, x -> x.held(2, 0, 30, 999));
        refused("held: 3 ahead of 6", 3, EdgesOfTelling::tellSome, x -> x.held(0, 0, 20, 128));
        refused("held: 3 ahead of 7", 3, EdgesOfTelling::tellAll, x -> x.held(0, 0, 0, 128));
        refused("held: 6 ahead of 7", 6, EdgesOfTelling::tellAll, x -> x.held(0, 0, 20, 0));
        refused("tear: 1 ahead of 7", 1, EdgesOfTelling::tellAll, x -> x.tear(0, 120));
        refused("copy: 1 ahead of 6", 1, EdgesOfTelling::tellSome, x -> x.copy(0, 5, 2, 0));
        refused("copy: 6 ahead of 7", 6, EdgesOfTelling::tellAll, x -> x.copy(0, 5, 0, 0));
        refused("off: 1 ahead of 3", 1, EdgesOfTelling::tellSome, x -> x.off(0, 12, 1, -1));
        refused("off: 3 ahead of 5", 3, EdgesOfTelling::tellSome, x -> x.off(0, 2, 1, 0));
        refused("off: 3 ahead of 7", 3, EdgesOfTelling::tellAll, x -> x.off(0, 0, 1, 0));
        refused("off: 5 ahead of 7", 5, EdgesOfTelling::tellAll, x -> x.off(0, 1, 2, 0));
        refused("back: 3 ahead of 7", 3, EdgesOfTelling::tellAll, x -> x.back(0, 0, -1));
        refused("back: 5 ahead of 7", 5, EdgesOfTelling::tellAll, x -> x.back(0, 1, 0));
        refused("grant: 1 ahead of 3", 1, EdgesOfTelling::tellSome, x -> x.grant(2, -1));
        refused("grant: 3 ahead of 7", 3, EdgesOfTelling::tellAll, x -> x.grant(0, 3600));
        refused("grant: 7 ahead of 8", 7, EdgesOfTelling::tellAll, x -> x.grant(0, 0));
        refused("recall: 1 ahead of 3", 1, EdgesOfTelling::tellSome, x -> x.recall(0, 12, -1, 0));
        refused("recall: 2 ahead of 3 and 8", 2, EdgesOfTelling::tellSome, x -> x.recall(0, 0, -1, 0));
        refused("recall: 3 ahead of 7 and 8", 3, EdgesOfTelling::tellAll, x -> x.recall(0, 8, 0, 0));
        refused("recall: 7 ahead of 8", 7, EdgesOfTelling::tellAll, x -> x.recall(0, 8, 0, 1));
    }

    private static void term() {
        Doc.section("Promise 6");
        Doc.says("A TERM.");
        TermReckoner x = one();
        Due.same("a term", x.term(0, 7, 3, 4), 0);
        Due.same("kind", x.kind(0, 7), 2);
        Due.same("begin", x.begins(0, 7, LEAST), 3);
        Due.same("end", x.ends(0, 7, LEAST), 6);

        Doc.says("STATUS 1, 2, 7;");
        refused("no such person", 1, EdgesOfTelling::tellSome, y -> y.term(2, 9, 0, 1));
        refused("no such place", 1, EdgesOfTelling::tellSome, y -> y.term(0, 12, 0, 1));
        refused("place -1", 1, EdgesOfTelling::tellSome, y -> y.term(0, -1, 0, 1));
        refused("where something is", 2, EdgesOfTelling::tellSome, y -> y.term(0, 2, 0, 1));
        lastEntry("a term", y -> y.term(0, 9, 0, 1));

        Doc.says("3: from is no day, or need not 1 to 3600.");
        for (int from : new int[] {LOW, -1, 3600, HIGH}) {
            refused("from " + from, 3, EdgesOfTelling::tellSome, y -> y.term(0, 9, from, 1));
        }
        for (int need : new int[] {LOW, -1, 0, 3601, HIGH}) {
            refused("need " + need, 3, EdgesOfTelling::tellSome, y -> y.term(0, 9, 0, need));
        }
        TermReckoner y = one();
        Due.same("need 1", y.term(0, 0, 0, 1), 0);
        Due.same("need 3600", y.term(0, 1, 0, 3600), 0);
        Due.same("from 3599", y.term(0, 2, 3599, 1), 0);
        Due.same("1 day", y.ends(0, 0, LEAST), 0);
        Due.same("3600 days", y.ends(0, 1, LEAST), 3599);
    }

    private static void waits() {
        Doc.section("Promise 7");
        Doc.says("A BEHIND, or (kind 4) a BESIDE, or (kind 5) a LIFE:");
        TermReckoner x = one();
        x.term(0, 0, 5, 5);
        for (int kind = 3; kind <= 5; kind++) {
            Due.same("kind " + kind, x.waits(0, kind, kind, 0, 5, set(0)), 0);
            Due.same("it is that", x.kind(0, kind), kind);
            Due.same("its begin", x.begins(0, kind, LEAST), kind == 4 ? 5 : 10);
            Due.same("its end", x.ends(0, kind, LEAST), kind == 3 ? 14 : kind == 4 ? 9 : NONE);
        }

        Doc.says("STATUS 1, 2, 7;");
        refused("no such person", 1, EdgesOfTelling::tellSome, y -> y.waits(2, 9, BEHIND, 0, 1, 0));
        refused("no such place", 1, EdgesOfTelling::tellSome, y -> y.waits(0, 12, BEHIND, 0, 1, 0));
        refused("place -1", 1, EdgesOfTelling::tellSome, y -> y.waits(0, -1, BEHIND, 0, 1, 0));
        refused("where something is", 2, EdgesOfTelling::tellSome, y -> y.waits(0, 3, BEHIND, 0, 1, 0));
        lastEntry("a behind", y -> y.waits(0, 9, BEHIND, 0, 1, 0));
        lastEntry("a beside", y -> y.waits(0, 9, BESIDE, 0, 1, 0));
        lastEntry("a life", y -> y.waits(0, 9, LIFE, 0, 1, 0));

        Doc.says("3 as term(),");
        for (int kind = 3; kind <= 5; kind++) {
            int of = kind;
            for (int from : new int[] {LOW, -1, 3600, HIGH}) {
                refused("kind " + kind + " from " + from, 3, EdgesOfTelling::tellSome, y -> y.waits(0, 9, of, from, 1, 0));
            }
            for (int need : new int[] {LOW, -1, 0, 3601, HIGH}) {
                refused("kind " + kind + " need " + need, 3, EdgesOfTelling::tellSome, y -> y.waits(0, 9, of, 0, need, 0));
            }
            TermReckoner y = one();
            Due.same("the least", y.waits(0, 0, kind, 0, 1, 0), 0);
            Due.same("the most", y.waits(0, 1, kind, 3599, 3600, 0), 0);
        }

        Doc.says("the kind is not 3, 4, 5,");
        for (int kind : new int[] {LOW, -3, -1, 0, 1, 2, 6, 7, 8, 9, 259, HIGH}) {
            refused("kind " + kind, 3, EdgesOfTelling::tellSome, y -> y.waits(0, 9, kind, 0, 1, 0));
        }

        Doc.says("or the SET is not 0 to 4095;");
        for (int set : new int[] {LOW, -4096, -1, 4096, 4097, 8191, 65536, HIGH}) {
            refused("set " + set, 3, EdgesOfTelling::tellSome, y -> y.waits(0, 9, BEHIND, 0, 1, set));
        }
        TermReckoner y = one();
        Due.same("set 0", y.waits(0, 0, BEHIND, 0, 1, 0), 0);
        Due.same("set 4095 without itself", y.waits(0, 11, BEHIND, 0, 1, ALL - set(11)), 0);
        Due.same("set 4095 is one that may be", y.waits(0, 5, BEHIND, 0, 1, ALL), 4);

        Doc.says("4 there would be a RING.");
        refused("by its own set", 4, EdgesOfTelling::tellSome, z -> z.waits(0, 9, BEHIND, 0, 1, set(9)));
        refused("of two", 4, EdgesOfTelling::tellSome, z -> z.waits(0, 8, BESIDE, 0, 1, set(7)));
        refused("of two, a life", 4, EdgesOfTelling::tellSome, z -> z.waits(0, 8, LIFE, 0, 1, ALL - set(8)));
        refused("4 ahead of 7", 4, EdgesOfTelling::tellAll, z -> z.waits(0, 9, BEHIND, 0, 1, set(9)));
        TermReckoner z = new TermReckoner();
        tellSome(z);
        Due.same("none", z.waits(0, 8, BEHIND, 0, 1, ALL - set(7, 8)), 0);
    }

    private static void stay() {
        Doc.section("Promise 8");
        Doc.says("A STAY (kind 6) or CREDIT (kind 7):");
        TermReckoner x = one();
        Due.same("a stay", x.stay(0, 0, 6, 3, 4, set(2)), 0);
        Due.same("a credit", x.stay(0, 1, 7, 5, 6, set(2)), 0);
        x.term(0, 2, 0, 30);
        Due.same("kind 6", x.kind(0, 0), 6);
        Due.same("kind 7", x.kind(0, 1), 7);
        Due.same("the stay's day", x.why(0, 2, 4), 4);
        Due.same("the credit's day", x.why(0, 2, 5), 1);

        Doc.says("STATUS 1, 2, 7;");
        refused("no such person", 1, EdgesOfTelling::tellSome, y -> y.stay(2, 9, STAY, 0, 1, 0));
        refused("no such place", 1, EdgesOfTelling::tellSome, y -> y.stay(0, 12, STAY, 0, 1, 0));
        refused("place -1", 1, EdgesOfTelling::tellSome, y -> y.stay(0, -1, CREDIT, 0, 1, 0));
        refused("where something is", 2, EdgesOfTelling::tellSome, y -> y.stay(0, 0, STAY, 0, 1, 0));
        lastEntry("a stay", y -> y.stay(0, 9, STAY, 0, 1, ALL));
        lastEntry("a credit", y -> y.stay(0, 9, CREDIT, 0, 1, ALL));

        Doc.says("3: another kind, SET, from, to are no days, or to is ahead of from.");
        for (int kind : new int[] {LOW, -1, 0, 1, 2, 3, 4, 5, 8, 9, 262, HIGH}) {
            refused("kind " + kind, 3, EdgesOfTelling::tellSome, y -> y.stay(0, 9, kind, 0, 1, ALL));
        }
        for (int set : new int[] {LOW, -1, 4096, 8191, HIGH}) {
            refused("set " + set, 3, EdgesOfTelling::tellSome, y -> y.stay(0, 9, STAY, 0, 1, set));
        }
        for (int day : new int[] {LOW, -1, 3600, HIGH}) {
            refused("from " + day, 3, EdgesOfTelling::tellSome, y -> y.stay(0, 9, CREDIT, day, 3599, ALL));
            refused("to " + day, 3, EdgesOfTelling::tellSome, y -> y.stay(0, 9, STAY, 0, day, ALL));
            refused("from and to " + day, 3, EdgesOfTelling::tellSome, y -> y.stay(0, 9, STAY, day, day, ALL));
        }
        refused("to a day ahead of from", 3, EdgesOfTelling::tellSome, y -> y.stay(0, 9, STAY, 6, 5, ALL));
        refused("to far ahead of from", 3, EdgesOfTelling::tellSome, y -> y.stay(0, 9, CREDIT, 3599, 0, ALL));
        TermReckoner y = one();
        Due.same("to is from", y.stay(0, 0, STAY, 5, 5, ALL), 0);
        Due.same("day 0 to day 3599, an empty set", y.stay(0, 1, CREDIT, 0, 3599, 0), 0);
        Due.same("the first day", y.stay(0, 2, CREDIT, 0, 0, 1), 0);
        Due.same("the last day", y.stay(0, 3, STAY, 3599, 3599, ALL), 0);
    }

    private static void quash() {
        Doc.section("Promise 9");
        Doc.says("A QUASH, in a PLACE of its own, of another one:");
        TermReckoner x = one();
        x.term(0, 4, 0, 10);
        x.term(0, 5, 0, 10);
        Due.same("a quash", x.quash(0, 11, 4), 0);
        Due.same("its kind", x.kind(0, 11), 8);
        Due.same("the other one's", x.kind(0, 4), 2);
        Due.same("that is quashed", x.why(0, 4, 0), 6);
        Due.same("by it", x.by(0, 4, 0), 11);
        Due.same("no other is", x.why(0, 5, 0), 0);

        Doc.says("STATUS 1 (also of the other one), 2, 7;");
        for (int wrong : new int[] {LOW, -1, 12, HIGH}) {
            refused("into place " + wrong, 1, EdgesOfTelling::tellSome, y -> y.quash(0, wrong, 0));
            refused("of place " + wrong, 1, EdgesOfTelling::tellSome, y -> y.quash(0, 9, wrong));
        }
        refused("of person 2", 1, EdgesOfTelling::tellSome, y -> y.quash(2, 9, 0));
        refused("of person -1", 1, EdgesOfTelling::tellSome, y -> y.quash(-1, 9, 0));
        refused("where something is", 2, EdgesOfTelling::tellSome, y -> y.quash(0, 2, 0));
        refused("into the place that it quashes", 2, EdgesOfTelling::tellSome, y -> y.quash(0, 0, 0));
        lastEntry("a quash", y -> y.quash(0, 9, 0));

        Doc.says("5: that has nothing, a LETTER, a QUASH, or is QUASHED already.");
        refused("of nothing", 5, EdgesOfTelling::tellSome, y -> y.quash(0, 9, 10));
        refused("of its own place, which has nothing", 5, EdgesOfTelling::tellSome, y -> y.quash(0, 9, 9));
        refused("of a letter", 5, EdgesOfTelling::tellSome, y -> y.quash(0, 9, 1));
        refused("of a quash", 5, EdgesOfTelling::tellSome, y -> y.quash(0, 9, 6));
        refused("of a quashed one", 5, EdgesOfTelling::tellSome, y -> y.quash(0, 9, 5));
        TermReckoner y = new TermReckoner();
        tellSome(y);
        y.as(0);
        Due.same("also where the day asked knows of none", y.quash(0, 9, 5), 5);
        Due.same("of a stay", y.quash(0, 8, 3), 0);
        Due.same("of a stay again", y.quash(0, 9, 3), 5);
        Due.same("of a credit", y.quash(0, 9, 4), 0);
        Due.same("of a life", y.quash(0, 10, 2), 0);
        Due.same("of a behind", y.quash(0, 11, 7), 0);
        TermReckoner z = of(2);
        z.term(0, 0, 0, 10);
        Due.same("another person's order is not there", z.quash(1, 1, 0), 5);
    }

    private static void month() {
        Doc.section("Promise 10");
        Doc.says("A MONTH is a ROW (wide: of shorts), n days, all held:");
        TermReckoner x = one();
        x.waits(0, 0, LIFE, 0, 1, 0);
        Due.same("a row", x.month(0, 0, false, 30), 0);
        Due.same("all held", x.check(0, 0, 0, -1), NONE);
        x.held(0, 0, 3, 0);
        x.held(0, 0, 29, 0);
        Due.same("two days are not", x.counted(0, 0, 29, LEAST), 28);
        Due.same("told anew", x.month(0, 0, true, 30), 0);
        Due.same("all held again", x.check(0, 0, 0, -1), NONE);
        Due.same("of shorts", x.held(0, 0, 0, 32767), 0);
        Due.same("told anew", x.month(0, 0, false, 30), 0);
        Due.same("of bytes", x.held(0, 0, 0, 128), 3);
        x.tear(0, 1);
        Due.same("onto a torn month", x.month(0, 1, false, 30), 0);
        Due.same("all held at most", x.counted(0, 0, 59, MOST), 60);
        x.month(0, 1, false, 12);
        Due.same("a shorter one", x.held(0, 1, 12, 1), 6);
        Due.same("its last day", x.held(0, 1, 11, 1), 0);

        Doc.says("STATUS 1 (person, MONTH), 7;");
        for (int wrong : new int[] {LOW, -1, 2, HIGH}) {
            refused("person " + wrong, 1, EdgesOfTelling::tellSome, y -> y.month(wrong, 0, true, 30));
        }
        for (int wrong : new int[] {LOW, -1, 120, HIGH}) {
            refused("month " + wrong, 1, EdgesOfTelling::tellSome, y -> y.month(0, wrong, false, 30));
        }
        lastEntry("a month", y -> y.month(0, 119, false, 30));

        Doc.says("3: n is below 0, or above 30.");
        for (int n : new int[] {LOW, -30, -1, 31, 32, 62, HIGH}) {
            refused("bytes, n " + n, 3, EdgesOfTelling::tellSome, y -> y.month(0, 0, false, n));
            refused("shorts, n " + n, 3, EdgesOfTelling::tellSome, y -> y.month(0, 3, true, n));
        }
        for (int n : new int[] {0, 1, 29, 30}) {
            TermReckoner y = one();
            Due.same("n " + n, y.month(0, 0, false, n), 0);
            Due.same("its last day", y.held(0, 0, n - 1, 0), n == 0 ? 6 : 0);
            Due.same("the day behind", y.held(0, 0, n, 0), 6);
            Due.same("open", y.open(0, 0), n < 30 ? 1 : 0);
        }
    }

    private static void held() {
        Doc.section("Promise 11");
        Doc.says("Day k of a MONTH's ROW is told:");
        TermReckoner x = one();
        x.waits(0, 0, LIFE, 0, 1, 0);
        x.month(0, 1, false, 30);
        for (int k : new int[] {0, 17, 29}) {
            Due.same("day " + k, x.held(0, 1, k, 0), 0);
            Due.same("is not held", x.why(0, 0, 30 + k), 5);
        }
        Due.same("just these", x.check(0, 0, 30, ~(1 | 1 << 17 | 1 << 29)), NONE);
        Due.same("not that of another month", x.counted(0, 0, 29, LEAST), 30);
        Due.same("held again", x.held(0, 1, 17, -1), 0);
        Due.same("it counts", x.why(0, 0, 47), 0);

        Doc.says("STATUS 1, 7;");
        for (int wrong : new int[] {LOW, -1, 2, HIGH}) {
            refused("person " + wrong, 1, EdgesOfTelling::tellSome, y -> y.held(wrong, 0, 0, 0));
        }
        for (int wrong : new int[] {LOW, -1, 120, HIGH}) {
            refused("month " + wrong, 1, EdgesOfTelling::tellSome, y -> y.held(0, wrong, 0, 0));
        }
        lastEntry("a day", y -> y.held(0, 1, 29, 0));

        Doc.says("6: the MONTH is no ROW (PLAIN, TORN), or has no such day;");
        refused("a plain month", 6, EdgesOfTelling::tellSome, y -> y.held(0, 3, 0, 0));
        refused("a torn month", 6, EdgesOfTelling::tellSome, y -> y.held(0, 2, 0, 0));
        refused("another person's month", 6, EdgesOfTelling::tellSome, y -> y.held(1, 0, 0, 0));
        for (int k : new int[] {LOW, -1, 20, 29, 30, HIGH}) {
            refused("day " + k + " of 20", 6, EdgesOfTelling::tellSome, y -> y.held(0, 0, k, 0));
        }
        for (int k : new int[] {LOW, -1, 30, 31, 32, HIGH}) {
            refused("day " + k + " of 30", 6, EdgesOfTelling::tellSome, y -> y.held(0, 1, k, 0));
        }
        TermReckoner empty = one();
        empty.month(0, 0, false, 0);
        Due.same("day 0 of none", empty.held(0, 0, 0, 0), 6);
        TermReckoner torn = one();
        torn.month(0, 0, false, 30);
        torn.tear(0, 0);
        Due.same("a row that was torn", torn.held(0, 0, 0, 0), 6);

        Doc.says("3: it is a ROW, and v is not -128 to 127 (wide: -32768 to 32767).");
        for (int v : new int[] {LOW, -65536, -32769, -32768, -256, -129, 128, 255, 256, 32767, 32768, 65536, HIGH}) {
            refused("a byte " + v, 3, EdgesOfTelling::tellSome, y -> y.held(0, 0, 0, v));
            refused("a byte of no day " + v, 3, EdgesOfTelling::tellSome, y -> y.held(0, 0, 20, v));
        }
        for (int v : new int[] {LOW, -65536, -32769, 32768, 65535, 65536, HIGH}) {
            refused("a short " + v, 3, EdgesOfTelling::tellSome, y -> y.held(0, 1, 0, v));
            refused("where there is no row " + v, 6, EdgesOfTelling::tellSome, y -> y.held(0, 3, 0, v));
            refused("where it is torn " + v, 6, EdgesOfTelling::tellSome, y -> y.held(0, 2, 0, v));
        }
        TermReckoner y = new TermReckoner();
        tellSome(y);
        for (int v : new int[] {-128, -127, -1, 0, 1, 127}) {
            Due.same("a byte " + v, y.held(0, 0, 0, v), 0);
        }
        for (int v : new int[] {-32768, -129, 128, 256, 32767}) {
            Due.same("a short " + v, y.held(0, 1, 0, v), 0);
        }
    }

    private static void tear() {
        Doc.section("Promise 12");
        Doc.says("A MONTH is TORN:");
        TermReckoner x = one();
        x.waits(0, 0, LIFE, 0, 1, 0);
        x.month(0, 0, true, 30);
        x.held(0, 0, 3, 0);
        Due.same("a row", x.tear(0, 0), 0);
        Due.same("a plain month", x.tear(0, 1), 0);
        Due.same("a torn month", x.tear(0, 1), 0);
        Due.same("its row is gone", x.held(0, 0, 3, 1), 6);
        Due.same("it is open", x.open(0, 0), 1);
        Due.same("at most none of both months", x.counted(0, 0, 59, MOST), 0);
        Due.same("at least all", x.counted(0, 0, 59, LEAST), 60);
        Due.same("the next one is not", x.open(0, 2), 0);

        Doc.says("STATUS 1, 7.");
        for (int wrong : new int[] {LOW, -1, 2, HIGH}) {
            refused("person " + wrong, 1, EdgesOfTelling::tellSome, y -> y.tear(wrong, 0));
        }
        for (int wrong : new int[] {LOW, -1, 120, HIGH}) {
            refused("month " + wrong, 1, EdgesOfTelling::tellSome, y -> y.tear(0, wrong));
        }
        lastEntry("a tear", y -> y.tear(0, 1));
    }

    private static void copy() {
        Doc.section("Promise 13");
        Doc.says("Rows of days go from a PERSON's MONTH to another's (a ROW as it is then, of its own):");
        TermReckoner x = of(2);
        x.waits(0, 0, LIFE, 0, 1, 0);
        x.waits(1, 0, LIFE, 0, 1, 0);
        x.month(0, 119, true, 30);
        x.held(0, 119, 0, 0);
        x.held(0, 119, 29, 0);
        Due.same("from the last month to another's first", x.copy(0, 119, 1, 0), 0);
        Due.same("its days", x.check(1, 0, 0, ~(1 | 1 << 29)), NONE);
        Due.same("it is wide, too", x.held(1, 0, 5, 32767), 0);
        x.held(0, 119, 1, 0);
        Due.same("as it was then", x.why(1, 0, 1), 0);
        x.held(1, 0, 2, 0);
        Due.same("of its own", x.why(0, 0, 3572), 0);
        x.month(0, 119, false, 30);
        Due.same("it stays when the first is told anew", x.why(1, 0, 29), 5);
        x.tear(0, 119);
        Due.same("it stays when the first is torn", x.open(1, 0), 0);
        x.month(0, 3, false, 7);
        Due.same("a short row of bytes onto it", x.copy(0, 3, 1, 0), 0);
        Due.same("is open there", x.open(1, 0), 1);
        Due.same("has its length", x.held(1, 0, 7, 1), 6);
        Due.same("and its last day", x.held(1, 0, 6, 1), 0);
        Due.same("and its width", x.held(1, 0, 0, 128), 3);
        x.month(0, 4, false, 30);
        x.held(0, 4, 9, 0);
        Due.same("onto itself", x.copy(0, 4, 0, 4), 0);
        Due.same("it is as it was", x.check(0, 0, 120, ~(1 << 9)), NONE);
        x.tear(0, 5);
        Due.same("onto a torn month of the same person", x.copy(0, 4, 0, 5), 0);
        Due.same("that is a row now", x.why(0, 0, 159), 5);
        x.month(0, 6, false, 0);
        Due.same("an empty row", x.copy(0, 6, 0, 4), 0);
        Due.same("is empty there", x.held(0, 4, 0, 0), 6);

        Doc.says("STATUS 1, 7;");
        for (int wrong : new int[] {LOW, -1, 2, HIGH}) {
            refused("of person " + wrong, 1, EdgesOfTelling::tellSome, y -> y.copy(wrong, 0, 0, 3));
            refused("to person " + wrong, 1, EdgesOfTelling::tellSome, y -> y.copy(0, 0, wrong, 3));
        }
        for (int wrong : new int[] {LOW, -1, 120, HIGH}) {
            refused("of month " + wrong, 1, EdgesOfTelling::tellSome, y -> y.copy(0, wrong, 0, 3));
            refused("to month " + wrong, 1, EdgesOfTelling::tellSome, y -> y.copy(0, 0, 1, wrong));
        }
        lastEntry("a copy", y -> y.copy(0, 0, 0, 119));

        Doc.says("6: the first is no ROW.");
        refused("a plain month", 6, EdgesOfTelling::tellSome, y -> y.copy(0, 3, 0, 0));
        refused("a torn month", 6, EdgesOfTelling::tellSome, y -> y.copy(0, 2, 0, 0));
        refused("another person's month", 6, EdgesOfTelling::tellSome, y -> y.copy(1, 0, 0, 0));
        TermReckoner y = new TermReckoner();
        tellSome(y);
        Due.same("the second need not be one", y.copy(0, 0, 1, 2), 0);
    }

    private static void off() {
        Doc.section("Promise 14");
        Doc.says("The RULE of an ORDER: one in k, LEFT thousandths:");
        TermReckoner x = one();
        x.term(0, 0, 0, 100);
        Due.same("a rule", x.off(0, 0, 4, 900), 0);
        Due.same("one in four", x.taken(0, 0, 15), 4);
        // 900 of 100 are left: ten may be taken.
        Due.same("ten at most", x.ends(0, 0, LEAST), 89);

        Doc.says("STATUS 1, 7;");
        refused("person 2", 1, EdgesOfTelling::tellSome, y -> y.off(2, 0, 2, 0));
        refused("person -1", 1, EdgesOfTelling::tellSome, y -> y.off(-1, 0, 2, 0));
        for (int wrong : new int[] {LOW, -1, 12, HIGH}) {
            refused("place " + wrong, 1, EdgesOfTelling::tellSome, y -> y.off(0, wrong, 2, 0));
        }
        lastEntry("a rule", y -> y.off(0, 0, 2, 0));

        Doc.says("5: it is no TERM, BEHIND, BESIDE, or is QUASHED;");
        int[] unfit = {1, 2, 3, 4, 5, 6, 9};
        String[] what = {"a letter", "a life", "a stay", "a credit", "a quashed term", "a quash", "nothing"};
        for (int i = 0; i < unfit.length; i++) {
            int place = unfit[i];
            refused(what[i], 5, EdgesOfTelling::tellSome, y -> y.off(0, place, 2, 0));
        }
        TermReckoner y = one();
        y.term(0, 0, 0, 10);
        y.waits(0, 1, BEHIND, 0, 10, 0);
        y.waits(0, 2, BESIDE, 0, 10, 0);
        for (int place = 0; place < 3; place++) {
            Due.same("of kind " + y.kind(0, place), y.off(0, place, 2, 0), 0);
        }
        y.quash(0, 3, 2);
        Due.same("a quashed beside", y.off(0, 2, 2, 0), 5);
        y.today(1);
        y.quash(0, 4, 1);
        y.as(0);
        Due.same("also where the day asked knows of no quash", y.off(0, 1, 2, 0), 5);

        Doc.says("3: k is not 2 to 100, left not 0 to 1000.");
        for (int k : new int[] {LOW, -2, -1, 0, 1, 101, 258, HIGH}) {
            refused("k " + k, 3, EdgesOfTelling::tellSome, z -> z.off(0, 0, k, 0));
        }
        for (int left : new int[] {LOW, -1, 1001, HIGH}) {
            refused("left " + left, 3, EdgesOfTelling::tellSome, z -> z.off(0, 0, 2, left));
        }
        for (int k : new int[] {2, 100}) {
            for (int left : new int[] {0, 1000}) {
                TermReckoner z = one();
                z.term(0, 0, 0, 300);
                Due.same("k " + k + ", left " + left, z.off(0, 0, k, left), 0);
                Due.same("taken of 100 days", z.taken(0, 0, 99), left == 1000 ? 0 : 100 / k);
            }
        }
    }

    private static void back() {
        Doc.section("Promise 15");
        Doc.says("Days GIVEN BACK (below 0: taken anew):");
        TermReckoner x = one();
        x.term(0, 0, 0, 100);
        x.off(0, 0, 4, 0);
        x.today(39);
        // d + d / 4 >= 100 first where d is 80; of the 20 taken, 7 are given: where d is 86 (21 less 7).
        Due.same("it ends", x.ends(0, 0, LEAST), 79);
        Due.same("seven", x.back(0, 0, 7), 0);
        Due.same("it ends later", x.ends(0, 0, LEAST), 85);
        Due.same("four anew", x.back(0, 0, -4), 0);
        // Three given: d + d / 4 - 3 >= 100 first where d is 83 (20 less 3).
        Due.same("it ends less late", x.ends(0, 0, LEAST), 82);

        Doc.says("STATUS 1, 7;");
        refused("person 2", 1, EdgesOfTelling::tellSome, y -> y.back(2, 0, 0));
        refused("person -1", 1, EdgesOfTelling::tellSome, y -> y.back(-1, 0, 0));
        for (int wrong : new int[] {LOW, -1, 12, HIGH}) {
            refused("place " + wrong, 1, EdgesOfTelling::tellSome, y -> y.back(0, wrong, 0));
        }
        lastEntry("none given back", y -> y.back(0, 0, 0));

        Doc.says("5 as off();");
        int[] unfit = {1, 2, 3, 4, 5, 6, 9};
        for (int place : unfit) {
            for (int days : new int[] {LOW, -1, 0, 1, HIGH}) {
                refused(days + " of place " + place, 5, EdgesOfTelling::tellSome, y -> y.back(0, place, days));
            }
        }
        TermReckoner y = one();
        y.waits(0, 0, BEHIND, 0, 10, 0);
        y.waits(0, 1, BESIDE, 0, 10, 0);
        y.off(0, 0, 2, 0);
        y.off(0, 1, 2, 0);
        y.today(3);
        Due.same("of a behind", y.back(0, 0, 2), 0);
        Due.same("of a beside", y.back(0, 1, 2), 0);

        Doc.says("3: GIVEN would be below 0, or (if days is above 0) above what is TAKEN up to TODAY (LEAST).");
        // TODAY is 20: without 10, 11 and 12 there are rows of 10 and 8 days, of which one in 5 makes 3.
        for (int days : new int[] {LOW, LOW + 1, -1, 4, 5, HIGH - 1, HIGH}) {
            refused(days + " where 3 are taken", 3, EdgesOfTelling::tellSome, z -> z.back(0, 0, days));
        }
        for (int days : new int[] {0, 1, 2, 3}) {
            TermReckoner z = new TermReckoner();
            tellSome(z);
            Due.same(days + " where 3 are taken", z.back(0, 0, days), 0);
            Due.same("one more than that", z.back(0, 0, 4 - days), 3);
            Due.same("one less than none", z.back(0, 0, -days - 1), 3);
            Due.same("far more", z.back(0, 0, HIGH), 3);
            Due.same("far less", z.back(0, 0, LOW), 3);
            Due.same("up to that", z.back(0, 0, 3 - days), 0);
            Due.same("none more", z.back(0, 0, 0), 0);
            Due.same("all anew", z.back(0, 0, -3), 0);
        }
        TermReckoner z = one();
        z.term(0, 0, 0, 100);
        z.off(0, 0, 10, 0);
        Due.same("on day 0", z.back(0, 0, 1), 3);
        z.today(8);
        Due.same("on the ninth day", z.back(0, 0, 1), 3);
        z.today(9);
        Due.same("on the tenth day", z.back(0, 0, 1), 0);
        z.today(40);
        z.tear(0, 0);
        z.as(0);
        // LEAST: 41 days, 4 taken, whatever day is asked.
        Due.same("least, and up to TODAY", z.back(0, 0, 3), 0);
        Due.same("not a fifth", z.back(0, 0, 1), 3);
        z.off(0, 0, 100, 0);
        Due.same("none are taken any more: not one more", z.back(0, 0, 1), 3);
        Due.same("none more may be given of fewer taken", z.back(0, 0, 0), 0);
        Due.same("fewer may, though above what is taken", z.back(0, 0, -1), 0);
        Due.same("all may", z.back(0, 0, -3), 0);
        Due.same("not more than all", z.back(0, 0, -1), 3);
        TermReckoner none = one();
        none.term(0, 0, 0, 100);
        none.today(50);
        Due.same("without a rule one", none.back(0, 0, 1), 3);
        Due.same("without a rule none", none.back(0, 0, 0), 0);
        TermReckoner ended = one();
        ended.term(0, 0, 0, 9);
        ended.off(0, 0, 2, 0);
        ended.today(3000);
        // d + d / 2 >= 9 first where d is 6: three are taken by its end, and no more.
        Due.same("behind its end no more than by it", ended.back(0, 0, 4), 3);
        Due.same("behind its end", ended.back(0, 0, 3), 0);
    }

    private static void grant() {
        Doc.section("Promise 16");
        Doc.says("A GRANT on a day:");
        TermReckoner x = one();
        x.term(0, 0, 0, 100);
        Due.same("a grant", x.grant(0, 70), 0);
        Due.same("it is the latest one", x.recall(0, 1, 70, 1), 8);
        Due.same("for a recall behind it", x.recall(0, 1, 71, 1), 0);

        Doc.says("STATUS 1, 7;");
        for (int wrong : new int[] {LOW, -1, 2, HIGH}) {
            refused("person " + wrong, 1, EdgesOfTelling::tellSome, y -> y.grant(wrong, 3000));
        }
        lastEntry("a grant", y -> y.grant(0, 60));

        Doc.says("3: it is none;");
        for (int day : new int[] {LOW, -1, 3600, 3601, HIGH}) {
            refused("on day " + day, 3, EdgesOfTelling::tellSome, y -> y.grant(1, day));
        }
        TermReckoner y = one();
        Due.same("on day 0", y.grant(0, 0), 0);
        Due.same("on day 3599", y.grant(0, 3599), 0);

        Doc.says("8: it is ahead of WATCHED, or there is none.");
        // Of the TERM of place 0 half is 50: without 10 to 12 day 52; the LIFE of place 2 has 4 by credit and 50 to 55.
        for (int day : new int[] {0, 1, 53, 54}) {
            refused("on day " + day, 8, EdgesOfTelling::tellSome, z -> z.grant(0, day));
        }
        for (int day : new int[] {55, 56, 3599}) {
            TermReckoner z = new TermReckoner();
            tellSome(z);
            Due.same("on day " + day, z.grant(0, day), 0);
        }
        TermReckoner z = one();
        z.term(0, 0, 3599, 3);
        Due.same("there is none: ahead of the last day", z.grant(0, 3598), 8);
        Due.same("there is none: on the last day", z.grant(0, 3599), 8);
        z.stay(0, 1, CREDIT, 0, 0, set(0));
        Due.same("with a day of credit: ahead of the last day", z.grant(0, 3598), 8);
        Due.same("with a day of credit: on the last day", z.grant(0, 3599), 0);
    }

    private static void recall() {
        Doc.section("Promise 17");
        Doc.says("A RECALL into a PLACE:");
        TermReckoner x = one();
        x.term(0, 0, 0, 100);
        x.grant(0, 80);
        Due.same("a recall", x.recall(0, 6, 90, 500), 0);
        Due.same("it is a term", x.kind(0, 6), 2);
        Due.same("from its day", x.begins(0, 6, LEAST), 90);
        Due.same("of ten days", x.ends(0, 6, LEAST), 99);

        Doc.says("STATUS 1, 2, 7;");
        refused("person 2", 1, EdgesOfTelling::tellSome, y -> y.recall(2, 9, 30, 500));
        refused("person -1", 1, EdgesOfTelling::tellSome, y -> y.recall(-1, 9, 30, 500));
        for (int wrong : new int[] {LOW, -1, 12, HIGH}) {
            refused("place " + wrong, 1, EdgesOfTelling::tellSome, y -> y.recall(1, wrong, 30, 500));
        }
        refused("where something is", 2, EdgesOfTelling::tellSome, y -> y.recall(1, 0, 30, 500));
        lastEntry("a recall", y -> y.recall(0, 9, 61, 500));

        Doc.says("3: the day is none, or thousandths not 1 to 1000;");
        for (int day : new int[] {LOW, -1, 3600, HIGH}) {
            refused("from day " + day, 3, EdgesOfTelling::tellSome, y -> y.recall(1, 9, day, 500));
        }
        for (int part : new int[] {LOW, -1, 0, 1001, HIGH}) {
            refused("by " + part, 3, EdgesOfTelling::tellSome, y -> y.recall(1, 9, 30, part));
        }
        for (int part : new int[] {1, 2, 999, 1000}) {
            TermReckoner y = new TermReckoner();
            tellSome(y);
            Due.same("by " + part, y.recall(1, 9, 30, part), 0);
        }
        TermReckoner late = new TermReckoner();
        tellSome(late);
        Due.same("from day 3599", late.recall(1, 9, 3599, 500), 0);

        Doc.says("8: there is no GRANT, the day is not behind the latest one, FULL is never, or not behind that GRANT.");
        refused("no grant", 8, EdgesOfTelling::tellSome, y -> y.recall(0, 9, 3000, 500));
        TermReckoner none = new TermReckoner();
        tellSome(none);
        none.quash(0, 8, 2);
        none.term(0, 9, 0, 200);
        none.copy(0, 0, 0, 3);
        none.held(0, 1, 3, 0);
        none.back(0, 0, 1);
        Due.same("no grant, whatever else was told", none.recall(0, 10, 3000, 500), 8);
        none.grant(0, 150);
        Due.same("now there is one", none.recall(0, 10, 3000, 500), 0);
        for (int day : new int[] {0, 3, 4}) {
            refused("on day " + day + ", the grant is on 4", 8, EdgesOfTelling::tellSome, y -> y.recall(1, 9, day, 500));
        }
        TermReckoner y = new TermReckoner();
        tellSome(y);
        Due.same("the day behind the grant", y.recall(1, 9, 5, 500), 0);
        // FULL is 100.
        for (int day : new int[] {98, 99, 100, 101}) {
            TermReckoner z = one();
            z.term(0, 0, 0, 100);
            z.grant(0, day);
            Due.same("a grant on day " + day + ", full is 100", z.recall(0, 1, 200, 1000), day < 100 ? 0 : 8);
            Due.same("its days", z.ends(0, 1, LEAST), day < 100 ? 200 + 100 - day - 1 : NONE);
        }
        TermReckoner never = one();
        never.grant(0, 5);
        Due.same("full is day 0 without an order", never.recall(0, 0, 10, 500), 8);
        never.waits(0, 1, LIFE, 0, 1, 0);
        Due.same("full is never", never.recall(0, 0, 10, 500), 8);
        never.quash(0, 2, 1);
        never.term(0, 3, 3599, 2);
        Due.same("full is never, of a term", never.recall(0, 0, 10, 500), 8);
        never.quash(0, 4, 3);
        never.term(0, 5, 0, 7);
        Due.same("full is 7", never.recall(0, 0, 10, 500), 0);
        Due.same("one day", never.ends(0, 0, LEAST), 10);
    }
}
