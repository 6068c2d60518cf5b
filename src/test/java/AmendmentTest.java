/** Promises 5 to 11: revoke, commence, withdraw, undo, amendment, operation, word; and 120 operations. */
public final class AmendmentTest {
    private static final Check CHECK = new Check("AmendmentTest");

    public static void main(String[] args) {
        revoke();
        commence();
        withdraw();
        undo();
        undoRestoresEachChange();
        amendmentParts();
        operationParts();
        statuses();
        words();
        limitOfOperations();
        CHECK.end();
    }

    private static void revoke() {
        StatuteBook book = Check.bookOf("1 insert 1 5", "2 replace 1 6");
        CHECK.due("revoke -1", book.revoke(-1, true), -2);
        CHECK.due("revoke 2", book.revoke(2, true), -2);
        CHECK.due("reinstate one that is not revoked", book.revoke(1, false), -3);
        CHECK.due("states", book.count(3), 2);
        CHECK.due("revoke 1", book.revoke(1, true), 1);
        CHECK.due("revoke 1 again", book.revoke(1, true), -3);
        CHECK.due("states", book.count(3), 3);
        CHECK.due("revoked", book.amendment(1, 1), 1);
        CHECK.due("other", book.amendment(0, 1), 0);
        CHECK.dueLaw(book, 9, -1, "1 5/");
        CHECK.due("reinstate 1", book.revoke(1, false), 1);
        CHECK.due("revoked", book.amendment(1, 1), 0);
        CHECK.dueLaw(book, 9, -1, "1 6/");
    }

    private static void commence() {
        StatuteBook book = Check.bookOf("1 insert 1 5", "2 replace 1 6", "3 replace 1 7");
        CHECK.due("commence -1", book.commence(-1, 0), -2);
        CHECK.due("commence 3", book.commence(3, 0), -2);
        CHECK.due("day -1", book.commence(0, -1), -2);
        CHECK.due("day 10000", book.commence(0, 10000), -2);
        CHECK.due("states", book.count(3), 3);
        CHECK.due("commence", book.commence(1, 9999), 2);
        CHECK.dueLaw(book, 9998, -1, "1 7/");
        CHECK.dueLaw(book, 9999, -1, "1 6/");
        CHECK.due("commence again", book.commence(1, 9999), 9999);
        CHECK.due("also the same day is a change", book.count(3), 5);
        CHECK.due("commence to 0", book.commence(1, 0), 9999);
        CHECK.due("status without a clause", book.operation(1, 0, 6), 1);
    }

    private static void withdraw() {
        StatuteBook book = Check.bookOf("1 insert 1;insert 2", "2 insert 3;repeal 1;insert 4");
        CHECK.due("revoke", book.revoke(1, true), 1);
        CHECK.due("withdraw", book.withdraw(), 1);
        CHECK.due("amendments", book.count(0), 1);
        CHECK.due("operations", book.count(1), 2);
        CHECK.due("identities", book.count(2), 2);
        CHECK.due("revoked", book.count(6), 0);
        CHECK.due("enact", Check.enact(book, "insert 7;repeal 2", 5), 1);
        CHECK.due("not revoked", book.amendment(1, 1), 0);
        CHECK.due("identity", book.operation(1, 0, 8), 2);
        CHECK.due("withdraw 1", book.withdraw(), 1);
        CHECK.due("withdraw 0", book.withdraw(), 0);
        CHECK.due("withdraw none", book.withdraw(), -3);
        CHECK.due("states", book.count(3), 7);
    }

    private static void undo() {
        StatuteBook book = Check.bookOf("1 insert 1 5");
        for (int day = 2; day <= 13; day++) {
            CHECK.due("commence " + day, book.commence(0, day), day - 1);
            CHECK.due("states", book.count(3), Math.min(day, 10));
        }
        for (int left = 9; left >= 0; left--) {
            CHECK.due("undo to " + left, book.undo(), left);
            CHECK.due("day", book.amendment(0, 0), left + 3);
        }
        CHECK.due("undo of nothing", book.undo(), -3);
        CHECK.due("day", book.amendment(0, 0), 3);
        CHECK.due("change again", book.commence(0, 7), 3);
        CHECK.due("undo again", book.undo(), 0);
        CHECK.due("day", book.amendment(0, 0), 3);
    }

    private static void undoRestoresEachChange() {
        StatuteBook book = Check.bookOf("1 insert 1 5;insert 5 @1");
        long first = book.digest();
        Check.enact(book, "repeal 1 saving;insert 2 @5", 3);
        book.revoke(0, true);
        book.commence(1, 8);
        book.revoke(0, false);
        book.withdraw();
        book.tidy(1);
        CHECK.due("states", book.count(3), 7);
        for (int left = 6; left >= 1; left--) {
            CHECK.due("undo", book.undo(), left);
        }
        CHECK.due("digest as at first", book.digest(), first);
        book.type('x');
        CHECK.due("undo of the first", book.undo(), 0);
        CHECK.due("the text is no part of a state", book.count(4), 1);
        CHECK.due("no amendments", book.count(0), 0);
    }

    private static void amendmentParts() {
        StatuteBook book = Check.bookOf("7 insert 1;insert 1;repeal 2", "8 repeal 1");
        CHECK.due("day", book.amendment(0, 0), 7);
        CHECK.due("revoked", book.amendment(0, 1), 0);
        CHECK.due("operations", book.amendment(0, 2), 3);
        CHECK.due("effective", book.amendment(0, 3), 1);
        CHECK.due("effective", book.amendment(1, 3), 1);
        CHECK.due("what -1", book.amendment(0, -1), -2);
        CHECK.due("what 4", book.amendment(0, 4), -2);
        CHECK.due("amendment -1", book.amendment(-1, 0), -2);
        CHECK.due("amendment 2", book.amendment(2, 0), -2);
        book.revoke(0, true);
        CHECK.due("revoked", book.amendment(0, 1), 1);
        CHECK.due("effective", book.amendment(0, 3), 0);
        CHECK.due("effective", book.amendment(1, 3), 0);
    }

    private static void row(StatuteBook book, int a, int op, int... want) {
        for (int what = 0; what < want.length; what++) {
            CHECK.due("operation " + a + " " + op + " " + what, book.operation(a, op, what), want[what]);
        }
    }

    private static void operationParts() {
        StatuteBook book = Check.bookOf(
                "1 insert 1 5 @9;insert 9;insert 1A 5 6;replace 1A @1A 7 8 saving",
                "2 renumber 1A to 3BC;in 3BC for 7 put 0 saving;repeal 9 saving;repeal 9");
        row(book, 0, 0, 0, 729, -1, -1, 0, 2, 4, -1, 0);
        row(book, 0, 1, 0, 6561, -1, -1, 0, 0, 0, 1, 1);
        row(book, 0, 2, 0, 756, -1, -1, 0, 2, 0, 2, 2);
        row(book, 0, 3, 1, 756, -1, -1, 1, 3, 0, 2, -1);
        row(book, 1, 0, 3, 756, 2187 + 54 + 3, -1, 0, 0, 0, 2, -1);
        row(book, 1, 1, 4, 2187 + 54 + 3, 7, 0, 1, 0, 0, 2, -1);
        row(book, 1, 2, 2, 6561, -1, -1, 1, 0, 0, 1, -1);
        row(book, 1, 3, 2, 6561, -1, -1, 0, 0, 1, -1, -1);
        CHECK.due("amendment -1", book.operation(-1, 0, 0), -2);
        CHECK.due("amendment 2", book.operation(2, 0, 0), -2);
        CHECK.due("operation -1", book.operation(0, -1, 0), -2);
        CHECK.due("operation 4", book.operation(0, 4, 0), -2);
        CHECK.due("what -1", book.operation(0, 0, -1), -2);
        CHECK.due("what 9", book.operation(0, 0, 9), -2);
    }

    /** Each reason, and which comes first where two apply. */
    private static void statuses() {
        StatuteBook book = Check.bookOf(
                "1 insert 1 5;insert 1 @8;insert 2 @2;renumber 7 to 1;renumber 1 to 1;renumber 1 to 2",
                "2 replace 1 @8;replace 8 @8;in 8 for 5 put 6;in 2 for 6 put 7;in 2 for 5 put 5;repeal 4",
                "3 replace 2 @2 1 1;in 2 for 1 put 0;in 2 for 1 put 0;in 2 for 0 put 1;insert 2");
        int[][] want = {{0, 2, 4, 1, 2, 0}, {1, 1, 1, 3, 0, 1}, {0, 0, 3, 0, 2}};
        for (int a = 0; a < want.length; a++) {
            for (int op = 0; op < want[a].length; op++) {
                CHECK.due("status " + a + " " + op, book.operation(a, op, 6), want[a][op]);
            }
        }
        book.revoke(1, true);
        for (int op = 0; op < want[1].length; op++) {
            CHECK.due("status if revoked " + op, book.operation(1, op, 6), 5);
            CHECK.due("clause if revoked " + op, book.operation(1, op, 7), -1);
        }
        CHECK.due("a reference to nothing", Check.enact(book, "replace 2 1 @1", 4), 3);
        CHECK.due("its status", book.operation(3, 0, 6), 4);
    }

    private static void words() {
        StatuteBook book = Check.bookOf("1 insert 1 0 999 @12AB 007", "2 in 1 for 7 put 8;repeal 1");
        CHECK.due("word 0", book.word(0, 0, 0), 0);
        CHECK.due("word 1", book.word(0, 0, 1), 999);
        CHECK.due("word 2", book.word(0, 0, 2), 1000 + 8777);
        CHECK.due("word 3", book.word(0, 0, 3), 7);
        CHECK.due("word 4", book.word(0, 0, 4), -2);
        CHECK.due("word -1", book.word(0, 0, -1), -2);
        CHECK.due("word of a change", book.word(1, 0, 0), -2);
        CHECK.due("word of a repeal", book.word(1, 1, 0), -2);
        CHECK.due("operation 1", book.word(0, 1, 0), -2);
        CHECK.due("operation -1", book.word(0, -1, 0), -2);
        CHECK.due("amendment 2", book.word(2, 0, 0), -2);
        CHECK.due("amendment -1", book.word(-1, 0, 0), -2);
    }

    private static void limitOfOperations() {
        String eight = "repeal1;repeal1;repeal1;repeal1;repeal1;repeal1;repeal1;repeal1";
        StatuteBook book = new StatuteBook();
        for (int i = 0; i < 14; i++) {
            CHECK.due("enact " + i, Check.enact(book, eight, 0), i);
        }
        CHECK.due("121 operations", Check.enact(book, eight + ";repeal1", 0), -4);
        CHECK.due("text stays", book.clear(), 71);
        CHECK.due("120 operations", Check.enact(book, eight, 0), 14);
        CHECK.due("operations", book.count(1), 120);
        CHECK.due("one more", Check.enact(book, "repeal1", 0), -4);
        CHECK.due("last one", book.operation(14, 7, 0), 2);
    }
}
