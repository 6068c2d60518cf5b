import java.math.BigInteger;
import java.util.ArrayList;
import java.util.List;

/** What is empty, full or comes round: the limits of 'Description', each reached within the 512 calls of an object. */
public final class BoundaryLimitTest {
    private static final Check CHECK = new Check("BoundaryLimitTest");

    public static void main(String[] args) {
        emptyBook();
        emptyAmendments();
        twentyAmendments();
        lastAmendmentInSets();
        roomAfterAFullBook();
        operationsByTidy();
        operationsByEnact();
        fortyIdentities();
        identitiesAreGivenAgain();
        identitiesWithoutAClause();
        fortyOperations();
        fortyClauses();
        tenStates();
        stateOfEachChange();
        nothingElseIsAState();
        statesComeRound();
        statesOfFullBooks();
        undoAfterRestore();
        snapshotsOfNothing();
        snapshotsAreCopies();
        outputOf(999);
        outputOf(1000);
        outputOf(1001);
        outputOf(1002);
        outputIsReplaced();
        digestComesRound();
        digestByCalls();
        lastCall();
        CHECK.end();
    }

    private static void counts(Book book, int... due) {
        for (int what = 0; what < due.length; what++) {
            CHECK.due("count " + what, book.count(what), due[what]);
        }
    }

    // ---- a book without anything

    /** "Creates a book without amendments, with an empty text." */
    private static void emptyBook() {
        Book book = new Book();
        counts(book, 0, 0, 0, 0, 0, 0, 0, 0, 0);
        CHECK.due("amendment", book.amendment(0, 0), -2);
        CHECK.due("operation", book.operation(0, 0, 0), -2);
        CHECK.due("word", book.word(0, 0, 0), -2);
        CHECK.due("revoke", book.revoke(0, true), -2);
        CHECK.due("reinstate", book.revoke(0, false), -2);
        CHECK.due("commence", book.commence(0, 0), -2);
        CHECK.due("withdraw", book.withdraw(), -3);
        CHECK.due("undo", book.undo(), -3);
        for (int caseDay = -1; caseDay <= 0; caseDay++) {
            CHECK.due("clauses", book.clauses(0, caseDay), 0);
            CHECK.due("clause", book.clause(0, caseDay, 0, 0), -2);
            CHECK.due("textWord", book.textWord(0, caseDay, 0, 0), -2);
            CHECK.due("find", book.find(0, caseDay, 729), -1);
            CHECK.due("print", book.print(0, caseDay), 0);
        }
        CHECK.due("printed", book.printed(0), -1);
        CHECK.due("history", book.history(0, 0, 0), -2);
        CHECK.due("references", book.references(0, 0), -2);
        CHECK.due("void references", book.references(0, -1), 0);
        CHECK.due("reach", book.reach(0, 0, 0), -2);
        CHECK.due("containing", book.containing(0, 0), 0);
        CHECK.due("conflict", book.conflict(0, 0), -1);
        CHECK.due("effect", book.effect(0, 0), -2);
        CHECK.due("fewestRevocations", book.fewestRevocations(0, 0), 0);
        CHECK.due("between", book.between(0, 729), -3);
        CHECK.due("tidy", book.tidy(0), -3);
        for (int what = 0; what <= 6; what++) {
            CHECK.due("tally " + what, book.tally(what), 0);
            CHECK.due("difference " + what % 4, book.difference(0, 9999, what % 4), 0);
        }
        CHECK.due("clear", book.clear(), 0);
        CHECK.due("enact", book.enact(0), -2000);
        CHECK.due("save", book.save(1), 0);
        CHECK.due("restore", book.restore(1), 0);
        counts(book, 0, 0, 0, 0, 0, 0, 0, 1, 0);
    }

    /** A book whose amendments were all withdrawn is as empty. */
    private static void emptyAmendments() {
        Book book = Book.of("0 insert 1 5;insert 2", "0 repeal 1");
        book.revoke(1, true);
        CHECK.due("withdraw", book.withdraw(), 1);
        CHECK.due("withdraw", book.withdraw(), 0);
        CHECK.due("withdraw of nothing", book.withdraw(), -3);
        counts(book, 0, 0, 0, 5, 0, 0, 0, 0, 0);
        CHECK.due("clauses", book.clauses(9999, -1), 0);
        CHECK.due("tally 5", book.tally(5), 0);
        CHECK.due("history", book.history(0, 0, 0), -2);
        CHECK.due("undo", book.undo(), 4);
        counts(book, 1, 2, 2, 4);
        CHECK.due("undo", book.undo(), 3);
        counts(book, 2, 3, 2, 3, 0, 0, 1);
    }

    // ---- "Amendments ...; there are at most 20"

    /** Twenty amendments on the days 100 to 81; the one on day 81 inserts 1, each of the others changes a word. */
    private static Book twenty() {
        Book book = new Book();
        for (int a = 0; a < 20; a++) {
            CHECK.due("amendment " + a, book.enact(a == 19 ? "insert2 19" : "in2for" + (a + 1) + "put" + a, 100 - a), a);
        }
        return book;
    }

    private static void twentyAmendments() {
        Book book = twenty();
        counts(book, 20, 20, 1, 10, 0, 0, 0, 0, 1);
        CHECK.due("the day of the last one", book.amendment(19, 0), 81);
        CHECK.due("no amendment behind it", book.amendment(20, 0), -2);
        CHECK.due("no operation behind it", book.operation(20, 0, 0), -2);
        CHECK.due("no second operation of it", book.operation(19, 1, 0), -2);
        CHECK.due("a 21st one", book.enact("repeal2", 0), -4);
        CHECK.due("its text stays", book.count(4), 7);
        CHECK.due("tidy", book.tidy(100), -4);
        CHECK.due("states", book.count(3), 10);
        CHECK.due("withdraw", book.withdraw(), 19);
        CHECK.due("the text can be enacted then", book.enact(200), 19);
        CHECK.due("a 21st one", book.enact("repeal2", 0), -4);
        CHECK.due("undo", book.undo(), 9);
        CHECK.due("it can be enacted again", book.enact(200), 19);
        CHECK.due("the text is gone", book.count(4), 0);
    }

    private static void lastAmendmentInSets() {
        Book book = twenty();
        CHECK.due("the first revocation", book.fewestRevocations(100, 0), 1);
        CHECK.due("on the first day", book.fewestRevocations(81, 19), 1 << 19);
        CHECK.due("on the second day", book.fewestRevocations(82, 18), 1 << 18);
        CHECK.due("revoke the last one", book.revoke(19, true), 1);
        CHECK.due("revoke it again", book.revoke(19, true), -3);
        CHECK.due("nothing is left", book.count(8), 0);
        CHECK.due("revoked", book.count(6), 1);
        CHECK.due("effect to reinstate it", book.effect(19, 81), 1);
        for (int a = 0; a < 19; a++) {
            CHECK.due("revoke " + a, book.revoke(a, true), 1);
        }
        CHECK.due("revoked", book.count(6), 20);
        CHECK.due("operations of revoked ones", book.tally(5), 20);
        CHECK.due("reinstate the last one", book.revoke(19, false), 1);
        CHECK.due("status of it", book.operation(19, 0, 6), 0);
        CHECK.due("the others are still revoked", book.tally(5), 19);
        Book pair = new Book();
        for (int a = 0; a < 20; a++) {
            pair.enact(a < 18 ? "insert1" : "insert" + a + " 5", a);
        }
        CHECK.due("the greatest pair", pair.fewestRevocations(9999, 5), (1 << 19) | (1 << 18));
        CHECK.due("one of the pair", pair.fewestRevocations(18, 5), 1 << 18);
    }

    /** A full book has room again after withdraw(), undo() and restore(). */
    private static void roomAfterAFullBook() {
        Book book = Book.of("1 insert 2");
        book.save(0);
        for (int a = 1; a < 20; a++) {
            CHECK.due("tidy " + a, book.tidy(100 - a), a);
        }
        CHECK.due("full", book.tidy(50), -4);
        CHECK.due("withdraw", book.withdraw(), 19);
        CHECK.due("tidy again", book.tidy(50), 19);
        CHECK.due("full again", book.tidy(40), -4);
        CHECK.due("undo", book.undo(), 9);
        CHECK.due("tidy again", book.tidy(50), 19);
        CHECK.due("restore", book.restore(0), 1);
        CHECK.due("tidy again", book.tidy(50), 1);
        CHECK.due("its operations", book.amendment(1, 2), 1);
    }

    // ---- "all amendments together have at most 120 operations"

    /** 24 clauses: 1A to 1X. */
    private static Book clauses24() {
        Book book = new Book();
        for (int i = 0; i < 24; i++) {
            book.say((i % 12 == 0 ? "" : ";") + "insert1" + (char) ('A' + i));
            if (i % 12 == 11) {
                CHECK.due("enact", book.enact(100), i / 12);
            }
        }
        return book;
    }

    private static void operationsByTidy() {
        Book book = clauses24();
        for (int i = 1; i <= 4; i++) {
            CHECK.due("tidy to " + 24 * (i + 1), book.tidy(200 - i), i + 1);
            CHECK.due("operations", book.count(1), 24 * (i + 1));
        }
        CHECK.due("120 are all", book.tidy(150), -4);
        CHECK.due("and not one more", book.enact("repeal1", 0), -4);
        CHECK.due("its text stays", book.clear(), 7);
        counts(book, 6, 120, 24, 6);
        CHECK.due("the last operation", book.operation(5, 23, 0), 3);
        CHECK.due("its new number", book.operation(5, 23, 2), 729);
        CHECK.due("no operation behind it", book.operation(5, 24, 0), -2);
        CHECK.due("its effect", book.amendment(5, 3), 24);
        CHECK.due("tally", book.tally(0), 48);
        CHECK.due("tally of the others", book.tally(1), 72);
        book.save(1);
        CHECK.due("withdraw", book.withdraw(), 5);
        CHECK.due("there is room for 24", book.enact("repeal1", 0), 5);
        CHECK.due("but not for 24 behind one", book.tidy(150), -4);
        CHECK.due("undo", book.undo(), 7);
        CHECK.due("tidy of 24", book.tidy(150), 5);
        long digest = book.digest();
        CHECK.due("undo", book.undo(), 7);
        CHECK.due("tidy", book.tidy(150), 5);
        CHECK.due("the same", book.digest(), digest);
        CHECK.due("restore", book.restore(1), 6);
        CHECK.due("the last day", book.amendment(5, 0), 196);
        CHECK.due("the last operation", book.operation(5, 23, 2), 729);
    }

    private static void operationsByEnact() {
        Book book = clauses24();
        for (int i = 1; i <= 3; i++) {
            book.tidy(200 - i);
        }
        CHECK.due("111 operations", book.enact("repeal1" + ";repeal1".repeat(14), 0), 5);
        CHECK.due("operations", book.count(1), 111);
        String nine = "repeal1" + ";repeal1".repeat(8);
        CHECK.due("121 operations", book.enact(nine + ";repeal1", 0), -4);
        CHECK.due("the text stays", book.clear(), 79);
        CHECK.due("120 operations", book.enact(nine, 0), 6);
        CHECK.due("operations", book.count(1), 120);
        CHECK.due("the last one", book.operation(6, 8, 0), 2);
        CHECK.due("one more", book.enact("repeal1", 0), -4);
    }

    // ---- "there are at most 40" identities

    private static void fortyIdentities() {
        Book book = new Book();
        String inserts = "insert1" + ";insert1".repeat(14);
        CHECK.due("15 identities", book.enact(inserts, 0), 0);
        CHECK.due("30 identities", book.enact(inserts, 0), 1);
        CHECK.due("39 identities", book.enact("insert1" + ";insert1".repeat(8), 0), 2);
        CHECK.due("identities", book.count(2), 39);
        CHECK.due("41 identities", book.enact("insert1;insert1", 0), -4);
        CHECK.due("the text stays", book.clear(), 15);
        CHECK.due("40 identities", book.enact("repeal1;insert1", 0), 3);
        CHECK.due("identities", book.count(2), 40);
        CHECK.due("one more", book.enact("insert1", 0), -4);
        CHECK.due("its text stays", book.clear(), 7);
        CHECK.due("no insert", book.enact("repeal1", 0), 4);
        CHECK.due("the first identity", book.operation(0, 0, 8), 0);
        CHECK.due("of the second amendment", book.operation(1, 0, 8), 15);
        CHECK.due("the last one", book.operation(3, 1, 8), 39);
        CHECK.due("its clause", book.operation(3, 1, 7), 39);
        CHECK.due("its history", book.history(39, 1, 2), 4);
        CHECK.due("no identity behind it", book.history(40, 0, 0), -2);
        CHECK.due("references to it", book.references(0, 39), 0);
        CHECK.due("references behind it", book.references(0, 40), -2);
        CHECK.due("reach of it", book.reach(0, 39, 0), -3);
        CHECK.due("reach behind it", book.reach(0, 40, 0), -2);
    }

    /** "identities are given to all insert operations of all amendments, from 0 on": what is withdrawn frees them. */
    private static void identitiesAreGivenAgain() {
        Book book = new Book();
        String inserts = "insert1" + ";insert1".repeat(9);
        for (int a = 0; a < 4; a++) {
            CHECK.due("enact", book.enact(inserts, 0), a);
        }
        CHECK.due("one more", book.enact("insert2", 0), -4);
        CHECK.due("withdraw", book.withdraw(), 3);
        CHECK.due("identities", book.count(2), 30);
        CHECK.due("history of 29", book.history(29, 0, 0), -1);
        CHECK.due("history of 30", book.history(30, 0, 0), -2);
        CHECK.due("enact", book.enact(0), 3);
        CHECK.due("its identity", book.operation(3, 0, 8), 30);
        CHECK.due("history of 30", book.history(30, 0, 1), 0);
        CHECK.due("history of 31", book.history(31, 0, 0), -2);
    }

    /** An insert has its identity also without an effect, and while its amendment is revoked. */
    private static void identitiesWithoutAClause() {
        Book book = Book.of("5 insert 1;insert 1;repeal 9;insert 2 @8", "5 insert 3");
        book.revoke(1, true);
        int[][] due = {{0, 0, 0, 0}, {0, 1, 1, -1}, {0, 3, 2, -1}, {1, 0, 3, -1}};
        for (int[] each : due) {
            CHECK.due("identity", book.operation(each[0], each[1], 8), each[2]);
            CHECK.due("clause", book.operation(each[0], each[1], 7), each[3]);
            CHECK.due("history", book.history(each[2], 0, 0), each[3] < 0 ? -1 : 5);
            CHECK.due("references", book.references(5, each[2]), 0);
            CHECK.due("reach", book.reach(5, each[2], 0), each[3] < 0 ? -3 : 1);
        }
        CHECK.due("no identity of a repeal", book.operation(0, 2, 8), -1);
        CHECK.due("identities", book.count(2), 4);
    }

    // ---- "1 to 40 operations", and 40 clauses in force

    /** 40 clauses, each behind the first one with a reference to the one before it. */
    private static Book chain() {
        Book book = new Book();
        for (int i = 1; i <= 40; i++) {
            book.say(i % 10 == 1 ? "" : ";").say(i == 1 ? "insert1" : "insert" + i + "@" + (i - 1));
            if (i % 10 == 0) {
                CHECK.due("enact", book.enact(7), i / 10 - 1);
            }
        }
        return book;
    }

    private static void fortyOperations() {
        Book book = new Book();
        for (int i = 0; i < 40; i++) {
            book.say(i % 10 == 0 ? "" : ";").say("insert" + (i / 10 + 1) + (char) ('A' + i % 10));
            if (i % 10 == 9) {
                CHECK.due("enact", book.enact(7), i / 10);
            }
        }
        CHECK.due("tidy", book.tidy(9), 4);
        CHECK.due("operations", book.amendment(4, 2), 40);
        CHECK.due("effects", book.amendment(4, 3), 40);
        CHECK.due("the first one goes up", book.operation(4, 0, 1), Check.code("4J"));
        CHECK.due("to the last number", book.operation(4, 0, 2), 40 * 729);
        CHECK.due("the last one goes down", book.operation(4, 39, 1), Check.code("1A"));
        CHECK.due("to the first number", book.operation(4, 39, 2), 729);
        CHECK.due("no operation behind it", book.operation(4, 40, 0), -2);
        CHECK.due("clauses", book.clauses(9, -1), 40);
        CHECK.due("the last clause", book.clause(9, -1, 39, 0), 40 * 729);
        CHECK.due("tidy for another day", book.tidy(8), 5);
        CHECK.due("operations", book.count(1), 120);
        CHECK.due("tidy for a third day", book.tidy(7), -4);
        CHECK.due("STATE before FULL", book.tidy(8), -3);
        counts(book, 6, 120, 40, 6);
    }

    private static void fortyClauses() {
        Book book = chain();
        CHECK.due("clauses", book.clauses(7, -1), 40);
        CHECK.due("in the full law", book.count(8), 40);
        CHECK.due("the last one", book.clause(7, -1, 39, 1), 39);
        CHECK.due("none behind it", book.clause(7, -1, 40, 0), -2);
        CHECK.due("its reference", book.textWord(7, -1, 39, 0), 1000 + 39 * 729);
        CHECK.due("find", book.find(7, -1, 40 * 729), 39);
        CHECK.due("reach", book.reach(7, 39, 0), 40);
        CHECK.due("greatest distance", book.reach(7, 39, 1), 39);
        CHECK.due("no way back", book.reach(7, 39, 2), 0);
        CHECK.due("reach of the first one", book.reach(7, 0, 0), 1);
        CHECK.due("between the last one and no other", book.between(7, 40 * 729), 41 * 729);
        CHECK.due("difference", book.difference(6, 7, 0), 40);
        CHECK.due("difference", book.difference(7, 6, 1), 40);
        CHECK.due("effect", book.effect(0, 7), 40);
        CHECK.due("effect of the last one", book.effect(3, 7), 10);
        CHECK.due("tidy", book.tidy(7), -3);
        CHECK.due("bytes", book.print(7, -1), 9 * 2 + 31 * 3 + 9 * 3 + 30 * 4);
    }

    // ---- "A history of at most 10 states"

    private static void tenStates() {
        Book book = Book.of("0 insert 1 5");
        CHECK.due("the first state", book.count(3), 1);
        for (int day = 1; day <= 9; day++) {
            book.commence(0, day);
            CHECK.due("states", book.count(3), day + 1);
        }
        for (int left = 9; left >= 1; left--) {
            CHECK.due("undo", book.undo(), left);
            CHECK.due("day", book.amendment(0, 0), left - 1);
        }
        CHECK.due("back to the empty book", book.undo(), 0);
        CHECK.due("amendments", book.count(0), 0);
        CHECK.due("no more", book.undo(), -3);
    }

    /** "each change records the state before it": enact, revoke (both ways), commence, withdraw, tidy. */
    private static void stateOfEachChange() {
        Book book = new Book();
        long[] before = new long[7];
        for (int change = 0; change < before.length; change++) {
            before[change] = book.digest();
            int[] due = {0, 1, 1, 3, 1, 1, 0};
            CHECK.due("change " + change, oneChange(book, change), due[change]);
            CHECK.due("states", book.count(3), change + 1);
        }
        for (int change = before.length - 1; change >= 0; change--) {
            CHECK.due("undo", book.undo(), change);
            CHECK.due("the state before change " + change, book.digest(), before[change]);
        }
    }

    private static int oneChange(Book book, int change) {
        switch (change) {
            case 0:
                return book.enact("insert 3 5;insert 4 @3", 3);
            case 1:
                return book.revoke(0, true);
            case 2:
                return book.revoke(0, false);
            case 3:
                return book.commence(0, 4);
            case 4:
                return book.tidy(4);
            case 5:
                return book.withdraw();
            default:
                return book.commence(0, 4) - 4;
        }
    }

    /** Calls that are no changes, and changes that are refused, record nothing. */
    private static void nothingElseIsAState() {
        Book book = Book.of("1 insert 1");
        book.say("abc");
        book.clear();
        book.print(1, -1);
        book.save(0);
        CHECK.due("states after no change", book.count(3), 1);
        int[] refused = {book.enact(0), book.enact(-1), book.revoke(0, false), book.revoke(1, true), book.commence(1, 0),
            book.commence(0, 10000), book.tidy(1), book.tidy(-1), book.restore(1)};
        int[] due = {-2000, -2, -3, -2, -2, -2, -3, -2, -3};
        for (int i = 0; i < due.length; i++) {
            CHECK.due("refused " + i, refused[i], due[i]);
        }
        CHECK.due("states after refused changes", book.count(3), 1);
        CHECK.due("a change that changes nothing", book.commence(0, 1), 1);
        CHECK.due("states then", book.count(3), 2);
        CHECK.due("undo is no change", book.undo(), 1);
        CHECK.due("withdraw", book.withdraw(), 0);
        CHECK.due("withdraw of nothing", book.withdraw(), -3);
        CHECK.due("states then", book.count(3), 2);
    }

    /** "when there are 10 already, the oldest one is dropped", however often */
    private static void statesComeRound() {
        Book book = Book.of("0 insert 1 5");
        for (int day = 1; day <= 25; day++) {
            CHECK.due("commence", book.commence(0, day), day - 1);
            CHECK.due("states", book.count(3), Math.min(day + 1, 10));
        }
        for (int left = 9; left >= 6; left--) {
            CHECK.due("undo", book.undo(), left);
            CHECK.due("day", book.amendment(0, 0), left + 15);
        }
        for (int day = 100; day <= 107; day++) {
            book.commence(0, day);
        }
        int[] days = {106, 105, 104, 103, 102, 101, 100, 21, 20, 19};
        for (int i = 0; i < days.length; i++) {
            CHECK.due("undo", book.undo(), 9 - i);
            CHECK.due("day", book.amendment(0, 0), days[i]);
        }
        CHECK.due("the older ones are dropped", book.undo(), -3);
        CHECK.due("nothing is undone then", book.amendment(0, 0), 19);
        CHECK.due("a change then", book.commence(0, 7), 19);
        CHECK.due("undo of it", book.undo(), 0);
        CHECK.due("day", book.amendment(0, 0), 19);
    }

    /** "states, each of which consists of all amendments", also if these are 120 operations and the states come round */
    private static void statesOfFullBooks() {
        Book book = clauses24();
        for (int i = 1; i <= 4; i++) {
            book.tidy(200 - i);
        }
        long full = book.digest();
        CHECK.due("withdraw", book.withdraw(), 5);
        CHECK.due("undo", book.undo(), 6);
        CHECK.due("all as before", book.digest(), full);
        for (int i = 0; i < 7; i++) {
            CHECK.due("to the same day", book.commence(5, 196), 196);
        }
        CHECK.due("states", book.count(3), 10);
        long tenStates = book.digest();
        for (int a = 5; a >= 0; a--) {
            CHECK.due("withdraw", book.withdraw(), a);
        }
        for (int a = 0; a <= 5; a++) {
            CHECK.due("undo", book.undo(), 9 - a);
            CHECK.due("amendments", book.count(0), a + 1);
            CHECK.due("operations", book.count(1), a == 0 ? 12 : 24 * a);
        }
        for (int i = 0; i < 6; i++) {
            CHECK.due("to the same day", book.commence(5, 196), 196);
        }
        CHECK.due("all as before", book.digest(), tenStates);
    }

    // ---- snapshots

    /** "The history is empty then", and fills again. */
    private static void undoAfterRestore() {
        Book book = Book.of("0 insert 1 5");
        for (int day = 1; day <= 12; day++) {
            book.commence(0, day);
        }
        book.save(1);
        book.commence(0, 50);
        CHECK.due("restore", book.restore(1), 1);
        CHECK.due("states", book.count(3), 0);
        CHECK.due("undo", book.undo(), -3);
        CHECK.due("day", book.amendment(0, 0), 12);
        for (int day = 13; day <= 24; day++) {
            CHECK.due("commence", book.commence(0, day), day - 1);
        }
        for (int left = 9; left >= 0; left--) {
            CHECK.due("undo", book.undo(), left);
            CHECK.due("day", book.amendment(0, 0), left + 14);
        }
        CHECK.due("undo of nothing", book.undo(), -3);
        CHECK.due("restore is not undone", book.restore(1), 1);
        CHECK.due("undo of nothing", book.undo(), -3);
    }

    /** "STATE if save() was not called for it": a snapshot of no amendments is one too. */
    private static void snapshotsOfNothing() {
        Book book = new Book();
        CHECK.due("restore 0 before save", book.restore(0), -3);
        CHECK.due("restore 1 before save", book.restore(1), -3);
        CHECK.due("save 1", book.save(1), 0);
        CHECK.due("snapshots", book.count(7), 1);
        CHECK.due("restore 0", book.restore(0), -3);
        book.enact("insert 1", 0);
        CHECK.due("restore 1", book.restore(1), 0);
        counts(book, 0, 0, 0, 0, 0, 0, 0, 1, 0);
        CHECK.due("save 1 again", book.save(1), 0);
        CHECK.due("snapshots", book.count(7), 1);
        CHECK.due("save 0", book.save(0), 0);
        CHECK.due("snapshots", book.count(7), 2);
        CHECK.due("restore 0", book.restore(0), 0);
    }

    /** "in place of what it holds"; what changes later does not change it, and the two are apart. */
    private static void snapshotsAreCopies() {
        Book book = Book.of("1 insert 1 5;insert 2 6", "2 repeal 2");
        book.revoke(1, true);
        book.save(0);
        book.revoke(1, false);
        book.commence(0, 9);
        book.save(1);
        book.withdraw();
        book.enact("replace 1 7;insert 8 8 8 8", 3);
        CHECK.due("restore 0", book.restore(0), 2);
        CHECK.due("revoked", book.amendment(1, 1), 1);
        CHECK.due("day", book.amendment(0, 0), 1);
        CHECK.dueLaw(book, 5, -1, "1 5/2 6/");
        book.withdraw();
        book.withdraw();
        CHECK.due("restore 1", book.restore(1), 2);
        CHECK.due("revoked", book.amendment(1, 1), 0);
        CHECK.due("day", book.amendment(0, 0), 9);
        CHECK.due("operations", book.count(1), 3);
        CHECK.due("restore 0", book.restore(0), 2);
        CHECK.due("revoked", book.amendment(1, 1), 1);
        CHECK.due("save over it", book.save(0), 2);
        CHECK.due("snapshots", book.count(7), 2);
    }

    // ---- "Of a longer text only the first 1000 bytes are kept"

    /** 24 clauses whose references are short to type and long to print, the last one of which fills the output up. */
    private static List<String> longLaw(int bytes) {
        String[] last = {"100 100 10", "100 100 100", "100A 100 100", "100 100 100 0"};
        List<String> texts = new ArrayList<>();
        StringBuilder text = new StringBuilder("insert1");
        for (int i = 0; i < 22; i++) {
            String number = i < 8 ? "" + (i + 2) : "2" + (char) ('A' + i - 8);
            text.append(text.length() == 0 ? "" : ";").append("insert").append(number).append("@1@1@1@1@1@1");
            if (text.length() > 98) {
                texts.add(text.toString());
                text.setLength(0);
            }
        }
        texts.add(text + ";insert" + last[bytes - 999] + ";renumber1to999ZZ");
        return texts;
    }

    private static void outputOf(int bytes) {
        Book book = new Book();
        Model model = new Model();
        for (String text : longLaw(bytes)) {
            CHECK.dueTrue("enact", book.enact(text, 1) >= 0);
            text.chars().forEach(model::type);
            model.enact(1);
        }
        int kept = Math.min(bytes, 1000);
        CHECK.due("bytes of the whole text", book.print(1, -1), bytes);
        CHECK.due("bytes that are kept", book.count(5), kept);
        CHECK.due("the first one", book.printed(0), '2');
        CHECK.due("the last one", book.printed(kept - 1), bytes <= 1000 ? 10 : 'Z');
        CHECK.due("none behind it", book.printed(kept), -1);
        CHECK.due("none at 1000", book.printed(1000), -1);
        CHECK.due("none at 1001", book.printed(1001), -1);
        CHECK.due("print again", book.print(1, -1), bytes);
        CHECK.due("bytes that are kept", book.count(5), kept);
        CHECK.due("bytes of the model", model.print(1, -1), bytes);
        CHECK.due("a digest of the bytes that are kept", book.digest(), model.digest());
    }

    /** "Prints the law to the output, in place of what it contains": a shorter one, none, and a refused one. */
    private static void outputIsReplaced() {
        Book book = Book.of("1 insert 1 5", "2 insert 2 6", "3 repeal 1;repeal 2");
        CHECK.due("print of two", book.print(2, -1), 8);
        CHECK.due("the last byte", book.printed(7), 10);
        CHECK.due("print of one", book.print(1, -1), 4);
        CHECK.due("the last byte", book.printed(3), 10);
        CHECK.due("nothing behind it", book.printed(4), -1);
        CHECK.due("a refused one", book.print(10000, -1), -2);
        CHECK.due("leaves the output", book.count(5), 4);
        CHECK.due("print of none", book.print(3, -1), 0);
        CHECK.due("no byte", book.printed(0), -1);
        CHECK.due("kept", book.count(5), 0);
        CHECK.due("the output is none of the history", book.undo(), 2);
        CHECK.due("kept", book.count(5), 0);
    }

    // ---- "(long arithmetic with overflow)"

    /** The digest of a book with a text alone, by exact arithmetic, brought to 64 bits at the end. */
    private static void digestComesRound() {
        int[] lengths = {0, 1, 2, 60, 119, 120};
        for (int length : lengths) {
            Book book = new Book();
            BigInteger hash = BigInteger.valueOf(311);
            for (int i = 0; i < 9 + 7; i++) {
                hash = hash.multiply(BigInteger.valueOf(31)).add(BigInteger.valueOf(i == 4 ? length : 0));
            }
            for (int i = 0; i < length; i++) {
                book.type(i + 3);
                hash = hash.multiply(BigInteger.valueOf(31)).add(BigInteger.valueOf(i + 3));
            }
            CHECK.due("digest of " + length + " bytes", book.digest(), hash.longValue());
            CHECK.dueTrue("it came round", hash.bitLength() > 64);
        }
    }

    /** The digest of a small book, by the calls that the document names, in their order. */
    private static void digestByCalls() {
        Book book = Book.of("1 insert 1 5;insert 2 @1 6", "3 in 2 for 6 put 0 saving;renumber 1 to 9A", "3 repeal 9A;replace 8 @1");
        book.revoke(0, true);
        book.revoke(0, false);
        book.save(1);
        book.print(3, 2);
        book.say("z;");
        long hash = 311;
        for (int what = 0; what <= 8; what++) {
            hash = 31 * hash + book.count(what);
        }
        for (int a = 0; a < book.count(0); a++) {
            hash = digestOfAmendment(book, a, hash);
        }
        for (int i = 0; i < book.clauses(9999, -1); i++) {
            for (int what = 0; what <= 3; what++) {
                hash = 31 * hash + book.clause(9999, -1, i, what);
            }
            for (int k = 0; k < book.clause(9999, -1, i, 2); k++) {
                hash = 31 * hash + book.textWord(9999, -1, i, k);
            }
        }
        for (int what = 0; what <= 6; what++) {
            hash = 31 * hash + book.tally(what);
        }
        for (int i = 0; i < book.count(5); i++) {
            hash = 31 * hash + book.printed(i);
        }
        CHECK.due("digest", book.digest(), 31 * (31 * hash + 'z') + ';');
    }

    private static long digestOfAmendment(Book book, int a, long before) {
        long hash = before;
        for (int what = 0; what <= 3; what++) {
            hash = 31 * hash + book.amendment(a, what);
        }
        for (int i = 0; i < book.amendment(a, 2); i++) {
            for (int what = 0; what <= 8; what++) {
                hash = 31 * hash + book.operation(a, i, what);
            }
            for (int k = 0; k < book.operation(a, i, 5); k++) {
                hash = 31 * hash + book.word(a, i, k);
            }
        }
        return hash;
    }

    // ---- "An object is used for at most 512 calls"

    /** The last call is answered as the first ones are. */
    private static void lastCall() {
        Book book = Book.of("0 insert 1 5");
        int states = 1;
        while (book.calls() < Book.LAST_CALL - 3) {
            CHECK.due("commence", book.commence(0, book.calls()) >= 0 ? 1 : 0, 1);
            states = Math.min(10, states + 1);
        }
        CHECK.due("the day of the last change", book.amendment(0, 0), Book.LAST_CALL - 4);
        CHECK.due("undo", book.undo(), states - 1);
        CHECK.due("the day of the change before", book.amendment(0, 0), Book.LAST_CALL - 5);
        CHECK.due("calls", book.calls(), 512);
    }
}
