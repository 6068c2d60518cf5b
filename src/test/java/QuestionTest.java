/** Promises 18 to 24: history, difference, containing, references, reach, tally, conflict. */
public final class QuestionTest {
    private static final Check CHECK = new Check("QuestionTest");

    public static void main(String[] args) {
        history();
        difference();
        sameTexts();
        containing();
        references();
        reach();
        tally();
        conflicts();
        conflictOrder();
        savingIsPlain();
        fullLawAfterAnother();
        shorterText();
        mostConflicts();
        CHECK.end();
    }

    private static void dueHistory(StatuteBook book, int identity, int[]... parts) {
        for (int k = 0; k < parts.length; k++) {
            for (int what = 0; what < 3; what++) {
                CHECK.due("history " + identity + " " + k + " " + what, book.history(identity, k, what), parts[k][what]);
            }
        }
        CHECK.due("history " + identity + " end", book.history(identity, parts.length, 0), -1);
    }

    private static void history() {
        StatuteBook book = Check.bookOf("9 replace 1 6;repeal 1 saving", "2 insert 1 5;insert 1 7;insert 2",
                "2 in 1 for 5 put 4;in 1 for 5 put 4", "5 renumber 2 to 3");
        dueHistory(book, 0, new int[] {2, 0, 1}, new int[] {2, 4, 2}, new int[] {9, 1, 0}, new int[] {9, 2, 0});
        dueHistory(book, 1);
        dueHistory(book, 2, new int[] {2, 0, 1}, new int[] {5, 3, 3});
        CHECK.due("identity -1", book.history(-1, 0, 0), -2);
        CHECK.due("identity 3", book.history(3, 0, 0), -2);
        CHECK.due("k -1", book.history(0, -1, 0), -2);
        CHECK.due("what -1", book.history(0, 0, -1), -2);
        CHECK.due("what 3", book.history(0, 0, 3), -2);
        CHECK.due("wrong what behind the end", book.history(0, 99, 3), -2);
        book.revoke(1, true);
        dueHistory(book, 0);
    }

    private static void dueDifference(StatuteBook book, int first, int second, int... want) {
        for (int what = 0; what < 4; what++) {
            CHECK.due("difference " + first + " " + second + " " + what, book.difference(first, second, what), want[what]);
        }
    }

    private static void difference() {
        StatuteBook book = Check.bookOf("1 insert 1 5;insert 2 @1 6;insert 3",
                "2 renumber 1 to 4;insert 5;insert 6", "3 repeal 3;repeal 4 saving;in 2 for 6 put 7;renumber 5 to 3");
        dueDifference(book, 0, 1, 3, 0, 0, 0);
        dueDifference(book, 1, 0, 0, 3, 0, 0);
        dueDifference(book, 1, 2, 2, 0, 1, 0);
        dueDifference(book, 2, 3, 0, 2, 1, 1);
        dueDifference(book, 3, 2, 2, 0, 1, 1);
        dueDifference(book, 1, 3, 2, 2, 0, 1);
        dueDifference(book, 2, 2, 0, 0, 0, 0);
        CHECK.due("first -1", book.difference(-1, 0, 0), -2);
        CHECK.due("first 10000", book.difference(10000, 0, 0), -2);
        CHECK.due("second -1", book.difference(0, -1, 0), -2);
        CHECK.due("second 10000", book.difference(0, 10000, 0), -2);
        CHECK.due("what -1", book.difference(0, 0, -1), -2);
        CHECK.due("what 4", book.difference(0, 0, 4), -2);
    }

    private static void sameTexts() {
        StatuteBook book = Check.bookOf("1 insert 1;insert 2 @1;insert 3 @1 5", "2 repeal 1", "3 insert 1",
                "4 replace 2 @1", "5 replace 3 5", "6 replace 3 5 5", "7 in 3 for 5 put 5");
        CHECK.due("a reference that gets void", book.difference(1, 2, 3), 0);
        CHECK.due("a new clause with the number", book.difference(1, 3, 3), 0);
        CHECK.due("a reference to another clause", book.difference(3, 4, 3), 1);
        CHECK.due("fewer words", book.difference(4, 5, 3), 1);
        CHECK.due("more words", book.difference(5, 6, 3), 1);
        CHECK.due("a change to the same word", book.difference(6, 7, 3), 0);
    }

    private static void containing() {
        StatuteBook book = Check.bookOf("1 insert 1 0 5 5;insert 2 5;insert 3 @1 @2;insert 4", "2 in 1 for 5 put 6");
        CHECK.due("5 on day 0", book.containing(0, 5), 0);
        CHECK.due("5 on day 1", book.containing(1, 5), 2);
        CHECK.due("5 on day 2", book.containing(2, 5), 1);
        CHECK.due("6 on day 2", book.containing(2, 6), 1);
        CHECK.due("0 on day 2", book.containing(2, 0), 1);
        CHECK.due("999", book.containing(2, 999), 0);
        CHECK.due("word -1", book.containing(2, -1), -2);
        CHECK.due("word 1000", book.containing(2, 1000), -2);
        CHECK.due("day -1", book.containing(-1, 5), -2);
        CHECK.due("day 10000", book.containing(10000, 5), -2);
        book.revoke(0, true);
        CHECK.due("text of no clause in force", book.containing(2, 5), 0);
    }

    private static void references() {
        StatuteBook book = Check.bookOf("1 insert 1;insert 2 @1 @1 5;insert 3 @2 @1;insert 3 7", "2 repeal 1",
                "3 repeal 2;insert 1 @3");
        CHECK.due("to 0 on day 1", book.references(1, 0), 3);
        CHECK.due("to 1 on day 1", book.references(1, 1), 1);
        CHECK.due("to 2 on day 1", book.references(1, 2), 0);
        CHECK.due("void on day 1", book.references(1, -1), 0);
        CHECK.due("to 0 on day 2", book.references(2, 0), 3);
        CHECK.due("void on day 2", book.references(2, -1), 3);
        CHECK.due("to 0 on day 3", book.references(3, 0), 1);
        CHECK.due("to 1 on day 3", book.references(3, 1), 1);
        CHECK.due("void on day 3", book.references(3, -1), 2);
        CHECK.due("to 2 on day 3", book.references(3, 2), 1);
        CHECK.due("to one that was never in force", book.references(3, 3), 0);
        CHECK.due("identity 5", book.references(3, 5), -2);
        CHECK.due("identity -2", book.references(3, -2), -2);
        CHECK.due("day -1", book.references(-1, 0), -2);
        CHECK.due("day 10000", book.references(10000, -1), -2);
        CHECK.due("nothing in force", book.references(0, -1), 0);
    }

    private static void dueReach(StatuteBook book, int day, int identity, int... want) {
        for (int what = 0; what < 3; what++) {
            CHECK.due("reach " + day + " " + identity + " " + what, book.reach(day, identity, what), want[what]);
        }
    }

    private static void reach() {
        StatuteBook book = Check.bookOf("1 insert 1;insert 2 @1;insert 3 @2 @1;insert 4 @3 9;insert 5",
                "2 replace 1 @4", "3 repeal 2", "4 replace 5 @5", "5 replace 1 @1");
        dueReach(book, 1, 3, 4, 2, 0);
        dueReach(book, 1, 0, 1, 0, 0);
        dueReach(book, 1, 4, 1, 0, 0);
        dueReach(book, 2, 0, 4, 3, 1);
        dueReach(book, 2, 1, 4, 3, 1);
        dueReach(book, 3, 3, 3, 2, 1);
        dueReach(book, 4, 4, 1, 0, 1);
        dueReach(book, 5, 3, 3, 2, 0);
        CHECK.due("not in force", book.reach(3, 1, 0), -3);
        CHECK.due("not yet in force", book.reach(0, 0, 0), -3);
        CHECK.due("identity 5", book.reach(1, 5, 0), -2);
        CHECK.due("identity -1", book.reach(1, -1, 0), -2);
        CHECK.due("what 3 comes before STATE", book.reach(0, 0, 3), -2);
        CHECK.due("what -1", book.reach(1, 0, -1), -2);
        CHECK.due("day 10000", book.reach(10000, 0, 0), -2);
        CHECK.due("day -1", book.reach(-1, 0, 0), -2);
    }

    private static void tally() {
        StatuteBook book = Check.bookOf("1 insert 1 5;insert 1;insert 2 @3;repeal 3;in 1 for 6 put 7;insert 3",
                "2 renumber 1 to 3;renumber 9 to 3", "2 repeal 1");
        int[] want = {3, 2, 2, 1, 1, 0, 0};
        for (int what = 0; what < want.length; what++) {
            CHECK.due("tally " + what, book.tally(what), want[what]);
        }
        book.revoke(0, true);
        int[] then = {0, 3, 0, 0, 0, 6, 0};
        for (int what = 0; what < then.length; what++) {
            CHECK.due("tally if revoked " + what, book.tally(what), then[what]);
        }
        CHECK.due("tally -1", book.tally(-1), -2);
        CHECK.due("tally 7", book.tally(7), -2);
    }

    private static void conflicts() {
        StatuteBook book = Check.bookOf("1 insert 1 5;insert 2 6", "1 in 1 for 5 put 6", "2 in 1 for 6 put 5;replace 2",
                "2 repeal 2;repeal 9");
        CHECK.due("conflicts", book.tally(6), 2);
        CHECK.due("amendments", book.conflict(1, 0), 2);
        CHECK.due("operation", book.conflict(1, 1), 1);
        CHECK.due("other amendment", book.conflict(1, 2), 3);
        CHECK.due("other operation", book.conflict(1, 3), 0);
        CHECK.due("clause", book.conflict(1, 4), 1);
        book.commence(1, 0);
        CHECK.due("not of another day, nor without effect", book.tally(6), 1);
        CHECK.due("the end", book.conflict(1, 0), -1);
        CHECK.due("k -1", book.conflict(-1, 0), -2);
        CHECK.due("what -1", book.conflict(0, -1), -2);
        CHECK.due("what 5", book.conflict(0, 5), -2);
        CHECK.due("wrong what behind the end", book.conflict(9, 5), -2);
        book.revoke(2, true);
        CHECK.due("not with a revoked one", book.tally(6), 0);
        CHECK.due("none", book.conflict(0, 0), -1);
    }

    /** The plain law carries out what is saving too. */
    private static void savingIsPlain() {
        StatuteBook book = Check.bookOf("1 insert 1 5;insert 2 @1;insert 3 @2",
                "2 in 1 for 5 put 6 saving;replace 2 @3 @3 saving", "3 repeal 1 saving;repeal 2 saving");
        CHECK.due("old word", book.containing(2, 5), 0);
        CHECK.due("new word", book.containing(2, 6), 1);
        CHECK.due("old references", book.references(2, 0), 0);
        CHECK.due("new references", book.references(2, 2), 2);
        CHECK.due("void references", book.references(3, -1), 1);
        dueReach(book, 2, 1, 2, 1, 1);
        CHECK.due("repealed", book.reach(3, 1, 0), -3);
        dueDifference(book, 1, 2, 0, 0, 0, 2);
        dueDifference(book, 2, 3, 0, 2, 0, 0);
        dueHistory(book, 0, new int[] {1, 0, 0}, new int[] {2, 4, 1}, new int[] {3, 2, 2});
        CHECK.due("effects", book.tally(0), 7);
    }

    private static void fullLawAfterAnother() {
        StatuteBook book = Check.bookOf("1 insert 1 5", "7 replace 1 6", "7 repeal 1;insert 9;insert 8");
        int[] due = {1, 0, 2, 0, 0};
        for (int what = 0; what < due.length; what++) {
            book.clauses(1, 0);
            CHECK.due("conflict 0 " + what, book.conflict(0, what), due[what]);
        }
        book.clauses(1, -1);
        CHECK.due("clauses in the full law", book.count(8), 2);
        book.clauses(1, -1);
        CHECK.due("conflicts", book.tally(6), 1);
        book.clauses(1, -1);
        CHECK.due("effects of 2", book.amendment(2, 3), 3);
        book.clauses(1, -1);
        CHECK.due("status", book.operation(2, 0, 6), 0);
        book.clauses(1, -1);
        CHECK.due("history", book.history(0, 2, 0), 7);
        book.clauses(1, -1);
        long digest = book.digest();
        CHECK.due("digest", book.digest(), digest);
    }

    /** What a replaced text said behind the end of the new one is gone. */
    private static void shorterText() {
        StatuteBook book = Check.bookOf("1 insert 1;insert 2 @1 7;insert 3 5 @1 7", "2 replace 2;replace 3 5", "3 repeal 1");
        CHECK.due("references before", book.references(1, 0), 2);
        CHECK.due("references then", book.references(2, 0), 0);
        CHECK.due("void references", book.references(3, -1), 0);
        CHECK.due("containing before", book.containing(1, 7), 2);
        CHECK.due("containing then", book.containing(2, 7), 0);
        dueReach(book, 1, 1, 2, 1, 0);
        dueReach(book, 2, 1, 1, 0, 0);
        dueReach(book, 2, 2, 1, 0, 0);
        CHECK.due("word behind the end", book.textWord(2, -1, 2, 1), -2);
        StatuteBook same = Check.bookOf("1 insert 1 5 6;insert 2", "2 replace 1 5", "3 replace 1 5 8", "4 replace 1 5");
        dueDifference(same, 2, 4, 0, 0, 0, 0);
        dueDifference(same, 1, 4, 0, 0, 0, 1);
    }

    /** 120 operations of 15 amendments, all on one clause and one day. */
    private static void mostConflicts() {
        String seven = ";in1for5put5;in1for5put5;in1for5put5;in1for5put5;in1for5put5;in1for5put5;in1for5put5";
        StatuteBook book = new StatuteBook();
        for (int a = 0; a < 15; a++) {
            CHECK.due("enact", Check.enact(book, (a == 0 ? "insert1 5" : "replace1 5") + seven, 0), a);
        }
        int conflicts = 15 * 14 / 2 * 8 * 8;
        CHECK.due("effects", book.tally(0), 120);
        CHECK.due("conflicts", book.tally(6), conflicts);
        int[] last = {13, 7, 14, 7, 0};
        for (int what = 0; what < last.length; what++) {
            CHECK.due("last conflict " + what, book.conflict(conflicts - 1, what), last[what]);
            CHECK.due("no more " + what, book.conflict(conflicts, what), -1);
        }
    }

    private static void conflictOrder() {
        StatuteBook book = Check.bookOf("1 replace 1 8;insert 1;insert 2;replace 2 7", "1 replace 2;replace 1",
                "1 replace 1;replace 2");
        int[][] want = {{0, 1, 1, 1, 0}, {0, 1, 2, 0, 0}, {0, 2, 1, 0, 1}, {0, 2, 2, 1, 1}, {0, 3, 1, 0, 1},
                {0, 3, 2, 1, 1}, {1, 0, 2, 1, 1}, {1, 1, 2, 0, 0}};
        CHECK.due("conflicts", book.tally(6), want.length);
        for (int k = 0; k < want.length; k++) {
            for (int what = 0; what < 5; what++) {
                CHECK.due("conflict " + k + " " + what, book.conflict(k, what), want[k][what]);
            }
        }
        CHECK.due("the end", book.conflict(want.length, 0), -1);
    }
}
