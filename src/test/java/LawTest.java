/** Promises 12 to 17: clauses, clause, textWord, find, print, printed; the consolidation behind them. */
public final class LawTest {
    private static final Check CHECK = new Check("LawTest");

    public static void main(String[] args) {
        orderOfAmendments();
        savings();
        renumbering();
        repealedForGood();
        badArguments();
        clauseParts();
        find();
        printing();
        printedLetters();
        longPrint();
        fullTexts();
        allAmendments();
        CHECK.end();
    }

    private static void orderOfAmendments() {
        StatuteBook book = Check.bookOf("5 insert 1 1", "3 insert 2 2", "5 in 1 for 1 put 3;in 1 for 3 put 4");
        CHECK.due("clauses 2", book.clauses(2, -1), 0);
        CHECK.due("clauses 3", book.clauses(3, -1), 1);
        CHECK.due("clauses 4", book.clauses(4, -1), 1);
        CHECK.due("clauses 5", book.clauses(5, -1), 2);
        CHECK.dueLaw(book, 5, -1, "1 4/2 2/");
        book.commence(0, 6);
        CHECK.dueLaw(book, 9999, -1, "1 1/2 2/");
        book.commence(2, 6);
        CHECK.dueLaw(book, 6, -1, "1 4/2 2/");
        book.revoke(0, true);
        CHECK.dueLaw(book, 6, -1, "2 2/");
    }

    private static void savings() {
        StatuteBook book = Check.bookOf("0 insert 1 5 6;insert 2 7;insert 3 8",
                "10 in 1 for 5 put 9 saving;repeal 2 saving;replace 3 1 saving;in 1 for 6 put 0");
        CHECK.dueLaw(book, 10, -1, "1 9 0/3 1/");
        CHECK.dueLaw(book, 10, 10, "1 9 0/3 1/");
        CHECK.dueLaw(book, 10, 9, "1 5 0/2 7/3 8/");
        CHECK.dueLaw(book, 10, 0, "1 5 0/2 7/3 8/");
        CHECK.dueLaw(book, 10, 9999, "1 9 0/3 1/");
        CHECK.dueLaw(book, 9, 0, "1 5 6/2 7/3 8/");
        book.commence(1, 20);
        CHECK.dueLaw(book, 20, 19, "1 5 0/2 7/3 8/");
        CHECK.dueLaw(book, 20, 20, "1 9 0/3 1/");
    }

    private static void renumbering() {
        StatuteBook book = Check.bookOf("1 insert 1;insert 2 @1;insert 3 @2 @1",
                "2 renumber 1 to 9Z;insert 1 @2", "3 replace 3 @1 @9Z;repeal 9Z");
        CHECK.dueLaw(book, 1, -1, "1/2 @1/3 @2 @1/");
        CHECK.dueLaw(book, 2, -1, "1 @2/2 @9Z/3 @2 @9Z/9Z/");
        CHECK.dueLaw(book, 3, -1, "1 @2/2 ?/3 @1 ?/");
        CHECK.due("reference that moved", book.textWord(2, -1, 1, 0), 1000 + Check.code("9Z"));
        CHECK.due("void reference", book.textWord(3, -1, 1, 0), -5);
    }

    private static void repealedForGood() {
        StatuteBook book = Check.bookOf("1 insert 1 5;insert 2 @1", "2 repeal 1", "3 insert 1 6");
        CHECK.dueLaw(book, 3, -1, "1 6/2 ?/");
        CHECK.due("identity", book.clause(3, -1, 0, 1), 2);
        CHECK.due("identity before", book.clause(1, -1, 0, 1), 0);
        CHECK.due("no history in the new one", book.history(2, 1, 0), -1);
    }

    private static void badArguments() {
        StatuteBook book = Check.bookOf("1 insert 1 5");
        int[][] laws = {{-1, -1}, {10000, -1}, {1, -2}, {1, 10000}, {-1, 0}};
        for (int[] law : laws) {
            CHECK.due("clauses", book.clauses(law[0], law[1]), -2);
            CHECK.due("clause", book.clause(law[0], law[1], 0, 0), -2);
            CHECK.due("textWord", book.textWord(law[0], law[1], 0, 0), -2);
            CHECK.due("find", book.find(law[0], law[1], 729), -2);
            CHECK.due("print", book.print(law[0], law[1]), -2);
        }
        CHECK.due("clause -1", book.clause(1, -1, -1, 0), -2);
        CHECK.due("clause 1", book.clause(1, -1, 1, 0), -2);
        CHECK.due("clause, day 0", book.clause(0, -1, 0, 0), -2);
        CHECK.due("what -1", book.clause(1, -1, 0, -1), -2);
        CHECK.due("what 4", book.clause(1, -1, 0, 4), -2);
        CHECK.due("word -1", book.textWord(1, -1, 0, -1), -2);
        CHECK.due("word 1", book.textWord(1, -1, 0, 1), -2);
        CHECK.due("word of clause -1", book.textWord(1, -1, -1, 0), -2);
        CHECK.due("word of clause 1", book.textWord(1, -1, 1, 0), -2);
        CHECK.due("word 0", book.textWord(1, -1, 0, 0), 5);
    }

    private static void clauseParts() {
        StatuteBook book = Check.bookOf("1 insert 3 1;insert 1AB 1 2;insert 1B",
                "4 in 3 for 1 put 1;replace 1B 1 2 3", "6 repeal 3 saving", "7 renumber 1B to 1", "5 replace 1AB @3");
        int[][] want = {{729, 2, 3, 7}, {758, 1, 1, 5}};
        for (int i = 0; i < want.length; i++) {
            for (int what = 0; what < 4; what++) {
                CHECK.due("clause " + i + " " + what, book.clause(7, -1, i, what), want[i][what]);
            }
        }
        CHECK.due("saved clause", book.clause(7, 5, 2, 0), 2187);
        CHECK.due("last day without the saving repeal", book.clause(7, 5, 2, 3), 4);
        CHECK.due("reference to the saved clause", book.textWord(7, 5, 1, 0), 3187);
        CHECK.due("void without the case", book.textWord(7, -1, 1, 0), -5);
    }

    private static void find() {
        StatuteBook book = Check.bookOf("1 insert 2;insert 1;insert 1A;insert 1AZ;insert 999ZZ");
        String[] numbers = {"1", "1A", "1AZ", "2", "999ZZ"};
        for (int i = 0; i < numbers.length; i++) {
            CHECK.due("find " + numbers[i], book.find(1, -1, Check.code(numbers[i])), i);
            CHECK.due("find on day 0 " + numbers[i], book.find(0, -1, Check.code(numbers[i])), -1);
        }
        CHECK.due("find 1B", book.find(1, -1, Check.code("1B")), -1);
        int[] noCodes = {-1, 0, 1, 728, 730, 755, 729 * 1000, 729 * 7 + 26, Integer.MAX_VALUE, Integer.MIN_VALUE};
        for (int code : noCodes) {
            CHECK.due("find " + code, book.find(1, -1, code), -2);
        }
        CHECK.due("the least code", book.find(1, -1, 729), 0);
        CHECK.due("the greatest code", book.find(1, -1, 729 * 999 + 728), 4);
        CHECK.due("code with one letter", book.find(1, -1, 729 + 27), 1);
    }

    private static void printing() {
        StatuteBook book = Check.bookOf("1 insert 12AB 0 5 10 99 100 999;insert 7 @12AB;insert 7Z");
        CHECK.due("bytes", book.print(1, -1), 8 + 3 + 23);
        CHECK.dueLaw(book, 1, -1, "7 @12AB/7Z/12AB 0 5 10 99 100 999/");
        CHECK.due("kept", book.count(5), 34);
        CHECK.due("last byte", book.printed(33), 10);
        CHECK.due("behind it", book.printed(34), -1);
        CHECK.due("far behind it", book.printed(Integer.MAX_VALUE), -1);
        CHECK.due("printed -1", book.printed(-1), -2);
        CHECK.due("wrong print", book.print(1, 10000), -2);
        CHECK.due("it leaves the output", book.count(5), 34);
        CHECK.due("print of nothing", book.print(0, -1), 0);
        CHECK.due("it leaves no byte", book.printed(0), -1);
    }

    private static void printedLetters() {
        StatuteBook book = Check.bookOf("1 insert 1AA;insert 1A;insert 1AZ;insert 1ZA;insert 1Z;insert 1ZZ;insert 10");
        CHECK.dueLaw(book, 1, -1, "1A/1AA/1AZ/1Z/1ZA/1ZZ/10/");
    }

    /** A change stays within its own clause, also if that has all six words. */
    private static void fullTexts() {
        StatuteBook book = Check.bookOf("1 insert 1 5 5 5 5 5 5;insert 2 5 5 5 5 5 5;insert 3 5", "2 in 1 for 5 put 6",
                "3 in 2 for 5 put 7");
        CHECK.dueLaw(book, 2, -1, "1 6 6 6 6 6 6/2 5 5 5 5 5 5/3 5/");
        CHECK.dueLaw(book, 3, -1, "1 6 6 6 6 6 6/2 7 7 7 7 7 7/3 5/");
    }

    /** Twenty amendments on twenty days that run against their numbers. */
    private static void allAmendments() {
        StatuteBook book = new StatuteBook();
        for (int a = 0; a < 20; a++) {
            Check.enact(book, a == 19 ? "insert 1 19" : "in 1 for " + (a + 1) + " put " + a, 119 - a);
        }
        for (int a = 19; a >= 0; a--) {
            CHECK.dueLaw(book, 119 - a, -1, "1 " + a + "/");
            CHECK.due("effective " + a, book.amendment(a, 3), 1);
        }
        CHECK.due("effects", book.tally(0), 20);
        CHECK.due("history", book.history(0, 19, 2), 0);
        CHECK.due("no more history", book.history(0, 20, 2), -1);
    }

    private static void longPrint() {
        StatuteBook book = new StatuteBook();
        for (int i = 0; i < 18; i++) {
            Check.enact(book, "insert " + (100 + i) + "AB 100 200 300 400 500 600;insert " + (200 + i)
                    + "AB 100 200 300 400 500 600", 1);
        }
        CHECK.due("bytes of the whole text", book.print(1, -1), 36 * 30);
        CHECK.due("kept bytes", book.count(5), 1000);
        CHECK.due("one of the last kept bytes", book.printed(998), '0');
        CHECK.due("the blank behind it", book.printed(999), 32);
        CHECK.due("no further byte", book.printed(1000), -1);
        CHECK.due("shorter print", book.print(0, -1), 0);
        CHECK.due("kept bytes then", book.count(5), 0);
    }
}
