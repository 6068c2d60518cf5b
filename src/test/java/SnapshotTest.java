/** Promises 29 to 32: save, restore, count, digest. */
public final class SnapshotTest {
    private static final Check CHECK = new Check("SnapshotTest");

    public static void main(String[] args) {
        snapshots();
        snapshotsKeepEverything();
        count();
        digestOfNothing();
        digestCountsEverything();
        CHECK.end();
    }

    private static void snapshots() {
        StatuteBook book = Check.bookOf("1 insert 1 5");
        CHECK.due("save -1", book.save(-1), -2);
        CHECK.due("save 2", book.save(2), -2);
        CHECK.due("restore -1", book.restore(-1), -2);
        CHECK.due("restore 2", book.restore(2), -2);
        CHECK.due("restore of nothing", book.restore(0), -3);
        CHECK.due("snapshots", book.count(7), 0);
        CHECK.due("save 1", book.save(1), 1);
        CHECK.due("still nothing in 0", book.restore(0), -3);
        CHECK.due("save is no change", book.count(3), 1);
        Check.enact(book, "repeal 1", 2);
        CHECK.due("save 0", book.save(0), 2);
        CHECK.due("snapshots", book.count(7), 2);
        Check.type(book, "abc");
        book.print(1, -1);
        CHECK.due("restore 1", book.restore(1), 1);
        CHECK.due("the history is empty", book.count(3), 0);
        CHECK.due("undo", book.undo(), -3);
        CHECK.due("the text stays", book.count(4), 3);
        CHECK.due("the output stays", book.count(5), 4);
        CHECK.due("restore 0", book.restore(0), 2);
        CHECK.due("restore 0 again", book.restore(0), 2);
        CHECK.due("withdraw", book.withdraw(), 1);
        CHECK.due("withdraw", book.withdraw(), 0);
        CHECK.due("save in place of what it holds", book.save(0), 0);
        CHECK.due("restore 1", book.restore(1), 1);
        CHECK.due("restore 0", book.restore(0), 0);
        CHECK.due("snapshots", book.count(7), 2);
    }

    private static void snapshotsKeepEverything() {
        StatuteBook book = Check.bookOf("1 insert 1 5;insert 2 @1 6", "3 in 2 for 6 put 7 saving;renumber 1 to 9A");
        book.revoke(0, true);
        book.revoke(0, false);
        book.revoke(1, true);
        book.save(0);
        book.restore(0);
        long digest = book.digest();
        book.save(1);
        book.commence(0, 7);
        book.revoke(1, false);
        Check.enact(book, "insert 3", 1);
        book.restore(0);
        book.save(1);
        for (int i = 0; i < 2; i++) {
            CHECK.due("restore", book.restore(i), 2);
            CHECK.due("count 7 differs", book.count(7), 2);
            CHECK.due("revoked", book.count(6), 1);
            CHECK.due("day", book.amendment(0, 0), 1);
        }
        StatuteBook same = Check.bookOf("1 insert 1 5;insert 2 @1 6",
                "3 in 2 for 6 put 7 saving;renumber 1 to 9A");
        same.revoke(1, true);
        same.save(0);
        same.restore(0);
        CHECK.due("digest of the same state", same.digest(), digest);
    }

    private static void count() {
        StatuteBook book = Check.bookOf("1 insert 1 5;insert 2 @1 6", "3 repeal 1;insert 1", "9 repeal 2");
        book.revoke(2, true);
        book.revoke(0, true);
        book.revoke(0, false);
        book.print(9999, -1);
        book.save(1);
        Check.type(book, "ab");
        int[] want = {3, 5, 3, 6, 2, 8, 1, 1, 2};
        for (int what = 0; what < want.length; what++) {
            CHECK.due("count " + what, book.count(what), want[what]);
        }
        CHECK.due("count -1", book.count(-1), -2);
        CHECK.due("count 9", book.count(9), -2);
    }

    private static void digestOfNothing() {
        long hash = 311;
        for (int i = 0; i < 9 + 7; i++) {
            hash *= 31;
        }
        StatuteBook book = new StatuteBook();
        CHECK.due("digest", book.digest(), hash);
        book.type(7);
        hash = 311;
        for (int i = 0; i < 9 + 7; i++) {
            hash = 31 * hash + (i == 4 ? 1 : 0);
        }
        CHECK.due("digest with a text", book.digest(), 31 * hash + 7);
    }

    /** The digest as the document tells it, by the other calls. */
    static long digestByCalls(StatuteBook book) {
        long hash = 311;
        for (int what = 0; what <= 8; what++) {
            hash = 31 * hash + book.count(what);
        }
        for (int a = 0; a < book.count(0); a++) {
            for (int what = 0; what <= 3; what++) {
                hash = 31 * hash + book.amendment(a, what);
            }
            for (int i = 0; i < book.amendment(a, 2); i++) {
                for (int what = 0; what <= 8; what++) {
                    hash = 31 * hash + book.operation(a, i, what);
                }
                for (int k = 0; k < book.operation(a, i, 5); k++) {
                    hash = 31 * hash + book.word(a, i, k);
                }
            }
        }
        for (int i = 0; i < book.clauses(9999, -1); i++) {
            for (int what = 0; what <= 3; what++) {
                hash = 31 * hash + book.clause(9999, -1, i, what);
            }
            for (int k = 0; k < book.clause(9999, -1, i, 2); k++) {
                hash = 31 * hash + book.textWord(9999, -1, i, k);
            }
        }
        for (int what = 0; what <= 6; what++) {
            hash = 31 * hash + book.tally(what);
        }
        for (int i = 0; i < book.count(5); i++) {
            hash = 31 * hash + book.printed(i);
        }
        return hash;
    }

    private static void digestCountsEverything() {
        StatuteBook book = Check.bookOf("1 insert 1 5;insert 2 @1 6", "3 in 2 for 6 put 7 saving;renumber 1 to 9A",
                "3 repeal 9A;insert 1 @2 @2;replace 8 1");
        book.print(3, 2);
        CHECK.due("digest", book.digest(), digestByCalls(book));
        CHECK.due("digest changes nothing", book.digest(), digestByCalls(book));
        Check.type(book, "z");
        CHECK.due("digest with a text", book.digest(), 31 * digestByCalls(book) + 'z');
        book.clear();
        book.revoke(1, true);
        CHECK.due("digest then", book.digest(), digestByCalls(book));
    }
}
