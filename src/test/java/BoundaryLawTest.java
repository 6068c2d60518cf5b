/** The boundary cases of 'Consolidation', 'Conflicts' and the full law, and of promises 5 to 17. */
public final class BoundaryLawTest {
    private static final Check CHECK = new Check("BoundaryLawTest");

    public static void main(String[] args) {
        dayOfAnAmendment();
        orderOfDaysAndNumbers();
        savingAndCase();
        savingOfEachKind();
        caseAfterTheDay();
        whatIsLeftOutFreesNothing();
        reasonsOfInsert();
        reasonsOfReplace();
        reasonsOfRepeal();
        reasonsOfRenumber();
        reasonsOfChange();
        withoutEffectNothingChanges();
        numberAtThisMoment();
        referencesFollow();
        voidReferences();
        neverBack();
        changedWords();
        statusOfTheFullLaw();
        statusOfRevoked();
        conflictNeedsAll();
        orderOfConflicts();
        orderOfCodes();
        firstAndLastCode();
        partsOfAmendments();
        partsOfOperations();
        lastEffect();
        firstAndLastClause();
        printedForms();
        printedNumbers();
        CHECK.end();
    }

    private static void statuses(Book book, int amendment, int... due) {
        for (int op = 0; op < due.length; op++) {
            CHECK.due("status " + amendment + " " + op, book.operation(amendment, op, 6), due[op]);
        }
        CHECK.due("operations of " + amendment, book.amendment(amendment, 2), due.length);
    }

    // ---- which amendments and operations are carried out

    /** "whose day is at most d": the day before, the day itself, the first and the last day */
    private static void dayOfAnAmendment() {
        int[] days = {0, 1, 500, 9998, 9999};
        for (int day : days) {
            Book book = Book.of(day + " insert 1 5");
            for (int d : new int[] {0, day - 1, day, day + 1, 9999}) {
                if (d >= 0 && d <= 9999) {
                    CHECK.due("clauses of " + d + " for " + day, book.clauses(d, -1), d >= day ? 1 : 0);
                    CHECK.due("in a case of day 0", book.clauses(d, 0), d >= day ? 1 : 0);
                    CHECK.due("containing", book.containing(d, 5), d >= day ? 1 : 0);
                    CHECK.due("reach", book.reach(d, 0, 0), d >= day ? 1 : -3);
                    CHECK.due("effect", book.effect(0, d), d >= day ? 1 : 0);
                }
            }
        }
    }

    /** "in the order of their days, those of the same day in the order of their numbers" */
    private static void orderOfDaysAndNumbers() {
        Book book = Book.of("6 replace 1 6", "5 replace 1 5", "4 insert 1 4", "5 replace 1 9", "6 in 1 for 9 put 8");
        CHECK.dueLaw(book, 3, -1, "");
        CHECK.dueLaw(book, 4, -1, "1 4/");
        CHECK.dueLaw(book, 5, -1, "1 9/");
        CHECK.dueLaw(book, 6, -1, "1 6/");
        book.commence(0, 7);
        CHECK.dueLaw(book, 6, -1, "1 8/");
        CHECK.dueLaw(book, 7, -1, "1 6/");
        book.commence(0, 4);
        CHECK.due("before the insert of the same day", book.operation(0, 0, 6), 1);
        book.commence(0, 5);
        CHECK.dueLaw(book, 5, -1, "1 9/");
        book.commence(3, 0);
        CHECK.dueLaw(book, 5, -1, "1 5/");
        CHECK.due("its own operations stay behind one another",
                Book.of("1 insert 1 1;in 1 for 1 put 2;in 1 for 1 put 3;in 1 for 2 put 4").textWord(1, -1, 0, 0), 4);
    }

    /** "left out if it is saving, there is a case, and c is less than the day of the amendment" */
    private static void savingAndCase() {
        Book book = Book.of("0 insert 1 1;insert 2 1", "10 in 1 for 1 put 2 saving;in 2 for 1 put 2");
        int[][] due = {{-1, 2}, {0, 1}, {9, 1}, {10, 2}, {11, 2}, {9999, 2}};
        for (int[] each : due) {
            CHECK.due("day 10, case " + each[0], book.textWord(10, each[0], 0, 0), each[1]);
            CHECK.due("day 9999, case " + each[0], book.textWord(9999, each[0], 0, 0), each[1]);
            CHECK.due("what is not saving, case " + each[0], book.textWord(10, each[0], 1, 0), 2);
            CHECK.due("day 9, case " + each[0], book.textWord(9, each[0], 0, 0), 1);
        }
        book.commence(1, 0);
        CHECK.due("day 0, case 0", book.textWord(0, 0, 0, 0), 2);
        book.commence(1, 9999);
        CHECK.due("day 9999, case 9998", book.textWord(9999, 9998, 0, 0), 1);
        CHECK.due("day 9999, case 9999", book.textWord(9999, 9999, 0, 0), 2);
        CHECK.due("day 9998, case 9999", book.textWord(9998, 9999, 0, 0), 1);
    }

    /** "Operations of the kinds 1, 2 and 4 may be saving." */
    private static void savingOfEachKind() {
        Book book = Book.of("0 insert 1 1;insert 2 2;insert 3 3",
                "5 replace 1 7 saving;repeal 2 saving;in 3 for 3 put 9 saving");
        CHECK.dueLaw(book, 5, -1, "1 7/3 9/");
        CHECK.dueLaw(book, 5, 5, "1 7/3 9/");
        CHECK.dueLaw(book, 5, 4, "1 1/2 2/3 3/");
        CHECK.due("clauses", book.clauses(5, 4), 3);
        CHECK.due("find", book.find(5, 4, 3 * 729), 2);
        CHECK.due("find without the case", book.find(5, -1, 3 * 729), 1);
        CHECK.due("clauses of the full law", book.count(8), 2);
        statuses(book, 1, 0, 0, 0);
    }

    /** A case may arise after the day of the law, and brings nothing of later days with it. */
    private static void caseAfterTheDay() {
        Book book = Book.of("0 insert 1 1", "10 in 1 for 1 put 2 saving", "20 replace 1 3 saving");
        CHECK.due("day 5, case 9999", book.textWord(5, 9999, 0, 0), 1);
        CHECK.due("day 10, case 20", book.textWord(10, 20, 0, 0), 2);
        CHECK.due("day 20, case 10", book.textWord(20, 10, 0, 0), 2);
        CHECK.due("day 20, case 19", book.textWord(20, 19, 0, 0), 2);
        CHECK.due("day 20, case 20", book.textWord(20, 20, 0, 0), 3);
        CHECK.due("day 20, case 9", book.textWord(20, 9, 0, 0), 1);
    }

    /** What is left out is not carried out at all, so that later operations find what it would have changed. */
    private static void whatIsLeftOutFreesNothing() {
        Book book = Book.of("0 insert 1 1;insert 2 @1", "5 repeal 1 saving;insert 1 6", "6 renumber 1 to 3");
        CHECK.dueLaw(book, 6, -1, "2 ?/3 6/");
        CHECK.dueLaw(book, 6, 4, "2 @3/3 1/");
        CHECK.due("identity without the case", book.clause(6, -1, 1, 1), 2);
        CHECK.due("identity with the case", book.clause(6, 4, 1, 1), 0);
        CHECK.due("last day without the case", book.clause(6, -1, 0, 3), 0);
        CHECK.due("void without the case", book.textWord(6, -1, 0, 0), -5);
        CHECK.due("not void with the case", book.textWord(6, 4, 0, 0), 1000 + 3 * 729);
        CHECK.due("void references are those of the plain law", book.references(6, -1), 1);
    }

    // ---- "An operation has no effect, for the first of the following reasons that applies"

    /** Reasons 2 and 4, and 2 before 4; "the clause that kind 0 inserts is not in force yet" */
    private static void reasonsOfInsert() {
        Book book = Book.of("1 insert 1;insert 1;insert 1 @9;insert 2 @2;insert 2 @9;insert 2 @1;insert 3 1 2 3 4 5 @9",
                "2 insert 3 @1 @2 5 @1;repeal 3;insert 3 @3;insert 3 @2;insert 3A @3;insert 3 @3A;insert 4 @3A");
        statuses(book, 0, 0, 2, 2, 4, 4, 0, 4);
        statuses(book, 1, 0, 0, 4, 0, 0, 2, 0);
    }

    /** Reasons 1 and 4, and 1 before 4; a reference to the clause itself is one to a clause in force. */
    private static void reasonsOfReplace() {
        Book book = Book.of("1 insert 1;insert 2", "2 replace 3;replace 3 @9;replace 1 @9;replace 1 @1;replace 1 @2 @1 5",
                "3 repeal 2;replace 1 @2;replace 1 5 @2;replace 2 5;replace 1 @1 @1 @1 @1 @1 @1;replace 1 @1 @1 @1 @1 @1 @2");
        statuses(book, 1, 1, 1, 4, 0, 0);
        statuses(book, 2, 0, 4, 4, 1, 0, 4);
    }

    /** Reason 1 alone */
    private static void reasonsOfRepeal() {
        Book book = Book.of("1 insert 1;insert 1A", "2 repeal 2;repeal 1B;repeal 1AA;repeal 1;repeal 1;repeal 1A;repeal 1A");
        statuses(book, 1, 1, 1, 1, 0, 1, 0, 1);
        CHECK.due("clauses", book.count(8), 0);
    }

    /** Reasons 1 and 2, and 1 before 2; "also if that is the clause itself" */
    private static void reasonsOfRenumber() {
        Book book = Book.of("1 insert 1;insert 2", "2 renumber 3 to 1;renumber 3 to 3;renumber 3 to 4;renumber 1 to 2;"
                + "renumber 1 to 1", "2 renumber 1 to 1A;renumber 1 to 5;renumber 2 to 1;renumber 1A to 1;repeal 1;"
                + "renumber 1A to 1");
        statuses(book, 1, 1, 1, 1, 2, 2);
        statuses(book, 2, 0, 1, 0, 2, 0, 0);
        CHECK.dueLaw(book, 2, -1, "1/");
        CHECK.due("identity", book.clause(2, -1, 0, 1), 0);
    }

    /** Reasons 1 and 3, and 1 before 3; an empty text, a full one, a word that is only a reference */
    private static void reasonsOfChange() {
        Book book = Book.of("1 insert 1;insert 2 5;insert 3 @1 @2;insert 4 1 2 3 4 5 6",
                "2 in 9 for 5 put 6;in 1 for 0 put 0;in 2 for 6 put 5;in 2 for 5 put 6;in 2 for 5 put 6;in 2 for 6 put 6",
                "3 in 3 for 0 put 1;in 3 for 1 put 1;in 3 for 729 put 1;in 3 for 999 put 1",
                "4 in 4 for 6 put 0;in 4 for 1 put 0;in 4 for 0 put 999;in 4 for 0 put 1;in 4 for 999 put 6;in 4 for 7 put 7");
        statuses(book, 1, 1, 3, 3, 0, 3, 0);
        statuses(book, 2, 3, 3, 3, 3);
        statuses(book, 3, 0, 0, 0, 3, 0, 3);
        CHECK.dueLaw(book, 4, -1, "1/2 6/3 @1 @2/4 6 2 3 4 5 6/");
    }

    /** What has no effect leaves the law, the last days and the histories as they are. */
    private static void withoutEffectNothingChanges() {
        Book book = Book.of("1 insert 1 5 6;insert 2 @1");
        String law = "1 5 6/2 @1/";
        CHECK.dueLaw(book, 1, -1, law);
        book.enact("insert 1 7;replace 1 8 9 @9;repeal 3;renumber 1 to 2;renumber 2 to 2", 2);
        book.enact("in 2 for 5 put 6;in 1 for 7 put 8;insert 3 @3;replace 9", 2);
        for (int a = 1; a <= 2; a++) {
            CHECK.due("effects of " + a, book.amendment(a, 3), 0);
            CHECK.due("effect of " + a, book.effect(a, 2), 0);
        }
        CHECK.dueLaw(book, 2, -1, law);
        for (int i = 0; i <= 1; i++) {
            CHECK.due("last day", book.clause(2, -1, i, 3), 1);
            CHECK.due("history", book.history(i, 1, 0), -1);
        }
        CHECK.due("conflicts", book.tally(6), 0);
    }

    // ---- numbers and references

    /** "The number in an operation always means the clause in force that has this number at this moment." */
    private static void numberAtThisMoment() {
        Book book = Book.of("1 insert 1 1;insert 2 2", "2 renumber 1 to 3;renumber 2 to 1;renumber 3 to 2;replace 1 @1 @2;"
                + "in 2 for 1 put 9");
        CHECK.dueLaw(book, 2, -1, "1 @1 @2/2 9/");
        CHECK.due("identity of 1", book.clause(2, -1, 0, 1), 1);
        CHECK.due("identity of 2", book.clause(2, -1, 1, 1), 0);
        CHECK.due("clause of the last operation", book.operation(1, 4, 7), 0);
        CHECK.due("clause of the one before", book.operation(1, 3, 7), 1);
    }

    /** "A reference in a text means the clause that had its number at the moment when the text was inserted or replaced" */
    private static void referencesFollow() {
        Book book = Book.of("1 insert 1;insert 2 @1;insert 3 @2 @1", "2 renumber 1 to 999ZZ;renumber 2 to 1",
                "3 replace 3 @1;renumber 999ZZ to 2");
        CHECK.dueLaw(book, 1, -1, "1/2 @1/3 @2 @1/");
        CHECK.dueLaw(book, 2, -1, "1 @999ZZ/3 @1 @999ZZ/999ZZ/");
        CHECK.dueLaw(book, 3, -1, "1 @2/2/3 @1/");
        CHECK.due("the greatest reference", book.textWord(2, -1, 0, 0), 1000 + 728999);
        CHECK.due("the word as it was enacted", book.word(0, 1, 0), 1729);
        CHECK.due("references to the first clause", book.references(3, 0), 1);
        CHECK.due("references to the second one", book.references(3, 1), 1);
        Book within = Book.of("1 insert 1;insert 2 @1;renumber 1 to 4;insert 1 @4;insert 3 @1;renumber 1 to 5");
        CHECK.dueLaw(within, 1, -1, "2 @4/3 @5/4/5 @4/");
    }

    /** "the reference is void while that clause is not in force" */
    private static void voidReferences() {
        Book book = Book.of("1 insert 1;insert 2 @1 7 @1;replace 1 @1 @2", "2 repeal 1", "3 repeal 2", "4 insert 1");
        CHECK.dueLaw(book, 1, -1, "1 @1 @2/2 @1 7 @1/");
        CHECK.dueLaw(book, 2, -1, "2 ? 7 ?/");
        int[] words = {-5, 7, -5};
        for (int k = 0; k < words.length; k++) {
            CHECK.due("word " + k, book.textWord(2, -1, 0, k), words[k]);
        }
        CHECK.due("no word behind them", book.textWord(2, -1, 0, 3), -2);
        CHECK.dueLaw(book, 3, -1, "");
        CHECK.dueLaw(book, 4, -1, "1/");
        CHECK.due("revoke", book.revoke(1, true), 1);
        CHECK.dueLaw(book, 2, -1, "1 @1 @2/2 @1 7 @1/");
    }

    /** "A clause that was repealed never comes back (a new clause with the same number is another one)." */
    private static void neverBack() {
        Book book = Book.of("1 insert 1 5;insert 2 @1;repeal 1;insert 1 5", "2 repeal 1", "3 insert 1 5;insert 3 @1",
                "4 replace 2 @1");
        CHECK.dueLaw(book, 1, -1, "1 5/2 ?/");
        CHECK.dueLaw(book, 3, -1, "1 5/2 ?/3 @1/");
        CHECK.dueLaw(book, 4, -1, "1 5/2 @1/3 @1/");
        CHECK.due("identity on day 1", book.clause(1, -1, 0, 1), 2);
        CHECK.due("identity on day 3", book.clause(3, -1, 0, 1), 3);
        CHECK.due("reach of the first one", book.reach(3, 0, 0), -3);
        CHECK.due("references to the first one", book.references(3, 0), 1);
        CHECK.due("and to the last one", book.references(4, 3), 2);
        CHECK.due("difference of the same number and text", book.difference(1, 3, 0), 2);
        CHECK.due("the old one is in force only on day 1", book.difference(1, 3, 1), 1);
        CHECK.due("history of the old one", book.history(2, 1, 1), 2);
        CHECK.due("nothing behind it", book.history(2, 2, 1), -1);
    }

    /** "each occurrence of the old word becomes the new one": the first, the last, all, and no reference */
    private static void changedWords() {
        Book book = Book.of("1 insert 1 5 6 5 6 5 5;insert 2 5;insert 3 5 @1 @2 5 @2 5", "2 in 1 for 5 put 0;in 3 for 5 put 999",
                "3 in 1 for 0 put 6", "4 in 1 for 6 put 6");
        CHECK.dueLaw(book, 2, -1, "1 0 6 0 6 0 0/2 5/3 999 @1 @2 999 @2 999/");
        CHECK.dueLaw(book, 3, -1, "1 6 6 6 6 6 6/2 5/3 999 @1 @2 999 @2 999/");
        CHECK.due("a change to the same word has an effect", book.operation(3, 0, 6), 0);
        CHECK.due("its day is the last one", book.clause(4, -1, 0, 3), 4);
        CHECK.due("but the text is the same", book.difference(3, 4, 3), 0);
        Book codes = Book.of("1 insert 2 729 756 999;insert 3 @2 729", "2 renumber 2 to 1;renumber 1 to 1A;in 3 for 756 put 1");
        CHECK.dueLaw(codes, 2, -1, "1A 729 756 999/3 @1A 729/");
    }

    // ---- the full law, statuses and conflicts

    /** "The full law is the plain law on day 9999." */
    private static void statusOfTheFullLaw() {
        Book book = Book.of("9999 repeal 1 saving", "9998 insert 1 5", "0 repeal 1");
        statuses(book, 0, 0);
        statuses(book, 1, 0);
        statuses(book, 2, 1);
        CHECK.due("clauses", book.count(8), 0);
        CHECK.due("clauses the day before", book.clauses(9998, -1), 1);
        CHECK.due("history", book.history(0, 1, 0), 9999);
        CHECK.due("clause", book.operation(0, 0, 7), 0);
        book.commence(0, 9997);
        statuses(book, 0, 1);
        CHECK.due("clauses then", book.count(8), 1);
        CHECK.due("clause then", book.operation(0, 0, 7), -1);
    }

    /** "5 if its amendment is revoked", whatever it would be otherwise */
    private static void statusOfRevoked() {
        Book book = Book.of("1 insert 1 5;insert 1;in 1 for 6 put 7;insert 2 @9;repeal 9", "2 repeal 1");
        book.revoke(0, true);
        statuses(book, 0, 5, 5, 5, 5, 5);
        statuses(book, 1, 1);
        for (int op = 0; op < 5; op++) {
            CHECK.due("no clause", book.operation(0, op, 7), -1);
        }
        CHECK.due("its kind stays", book.operation(0, 2, 0), 4);
        CHECK.due("tally", book.tally(5), 5);
        book.revoke(1, true);
        CHECK.due("tally", book.tally(5), 6);
        book.revoke(0, false);
        statuses(book, 0, 0, 2, 3, 4, 1);
        CHECK.due("tally", book.tally(5), 1);
    }

    /** "different amendments with the same day ... both have the status 0 and the same clause" */
    private static void conflictNeedsAll() {
        String insert = "1 insert 1 5;insert 2 5";
        String[][] books = {{insert, "2 replace 1 6", "2 replace 1 7"}, {insert, "2 replace 1 6;replace 1 7"},
            {insert, "2 replace 1 6", "3 replace 1 7"}, {insert, "2 replace 1 6", "2 replace 2 7"},
            {insert, "2 repeal 1", "2 replace 1 7"}, {insert, "1 replace 1 6"}, {insert, "1 repeal 2;replace 1 6"},
            {insert, "1 renumber 1 to 3;replace 3", "1 in 3 for 5 put 5"}, {insert, "1 renumber 1 to 3", "1 repeal 3"},
            {insert, "1 replace 1 @2", "1 replace 2 @1"}, {insert, "2 repeal 1;insert 1", "2 replace 1"}};
        int[] due = {1, 0, 0, 0, 0, 1, 2, 2, 3, 2, 1};
        for (int i = 0; i < due.length; i++) {
            Book book = Book.of(books[i]);
            CHECK.due("conflicts of book " + i, book.tally(6), due[i]);
            CHECK.due("the last one of book " + i, due[i] == 0 ? 1 : book.conflict(due[i] - 1, 0) >= 0 ? 1 : 0, 1);
            CHECK.due("none behind it", book.conflict(due[i], 0), -1);
        }
        Book book = Book.of(insert, "2 replace 1 6", "2 replace 1 7");
        book.revoke(1, true);
        CHECK.due("not with a revoked one", book.tally(6), 0);
        book.revoke(1, false);
        book.commence(2, 3);
        CHECK.due("not on another day", book.tally(6), 0);
        book.commence(1, 3);
        CHECK.due("on the same day again", book.tally(6), 1);
    }

    /** "ordered by the amendment with the smaller number, then its operation, then the other amendment, then its operation" */
    private static void orderOfConflicts() {
        Book book = Book.of("5 replace 1 8;replace 2 8", "4 insert 1;insert 2", "5 replace 2;replace 1;replace 1", "5 replace 1");
        int[][] due = {{0, 0, 2, 1, 0}, {0, 0, 2, 2, 0}, {0, 0, 3, 0, 0}, {0, 1, 2, 0, 1}, {2, 1, 3, 0, 0}, {2, 2, 3, 0, 0}};
        CHECK.due("conflicts", book.tally(6), due.length);
        for (int k = 0; k < due.length; k++) {
            for (int what = 0; what < 5; what++) {
                CHECK.due("conflict " + k + " " + what, book.conflict(k, what), due[k][what]);
            }
        }
        for (int what = 0; what < 5; what++) {
            CHECK.due("none behind them " + what, book.conflict(due.length, what), -1);
            CHECK.due("none far behind them " + what, book.conflict(Integer.MAX_VALUE, what), -1);
        }
    }

    // ---- codes and properties

    /** "12 is before 12A, this before 12AB, and this before 12B" */
    private static void orderOfCodes() {
        Book book = Book.of("0 insert 12B;insert 13;insert 12AB;insert 2;insert 12;insert 12AZ;insert 12A;insert 11ZZ");
        CHECK.dueLaw(book, 0, -1, "2/11ZZ/12/12A/12AB/12AZ/12B/13/");
        int[] codes = {1458, 8019 + 728, 8748, 8775, 8777, 8801, 8802, 9477};
        for (int i = 0; i < codes.length; i++) {
            CHECK.due("code " + i, book.clause(0, -1, i, 0), codes[i]);
            CHECK.due("find " + codes[i], book.find(0, -1, codes[i]), i);
        }
    }

    /** "An integer is a code if it is the code of a number." */
    private static void firstAndLastCode() {
        Book book = Book.of("0 insert 1;insert 1A;insert 1AA;insert 1ZZ;insert 2;insert 999;insert 999ZZ");
        int[] codes = {729, 756, 757, 1457, 1458, 728271, 728999};
        for (int i = 0; i < codes.length; i++) {
            CHECK.due("find " + codes[i], book.find(0, -1, codes[i]), i);
        }
        int[] free = {783, 782, 758, 1456, 1485, 728998, 728298};
        for (int code : free) {
            CHECK.due("find " + code, book.find(0, -1, code), -1);
            CHECK.due("between " + code, book.between(0, code), -3);
        }
        int[] none = {728, 730, 754, 755, 1459, 1484, 728272, 728297, 729000};
        for (int code : none) {
            CHECK.due("find " + code, book.find(0, -1, code), -2);
            CHECK.due("between " + code, book.between(0, code), -2);
        }
    }

    /** Promise 9, of the first and the last amendment */
    private static void partsOfAmendments() {
        Book book = Book.of("0 insert 1;insert 1;insert 2", "9999 repeal 3", "5 repeal 2");
        int[][] due = {{0, 0, 3, 2}, {9999, 0, 1, 0}, {5, 0, 1, 1}};
        for (int a = 0; a < due.length; a++) {
            for (int what = 0; what < 4; what++) {
                CHECK.due("amendment " + a + " " + what, book.amendment(a, what), due[a][what]);
            }
        }
        book.revoke(2, true);
        int[] revoked = {5, 1, 1, 0};
        for (int what = 0; what < 4; what++) {
            CHECK.due("revoked " + what, book.amendment(2, what), revoked[what]);
        }
        CHECK.due("revoked", book.count(6), 1);
        CHECK.due("withdraw", book.withdraw(), 2);
        CHECK.due("it is gone", book.amendment(2, 0), -2);
        CHECK.due("and not revoked when it is there again", book.enact("repeal 2", 1), 2);
        CHECK.due("revoked", book.amendment(2, 1), 0);
        CHECK.due("revoked in all", book.count(6), 0);
    }

    /** "NONE where there is none (2 and 3 for other kinds, 7 for another status, 8 for other kinds)" */
    private static void partsOfOperations() {
        Book book = Book.of("1 insert 1 0;replace 1 999 @1 saving;repeal 1A;renumber 1 to 999ZZ;in 999ZZ for 999 put 0",
                "2 insert 3;in 999ZZ for 0 put 0 saving;repeal 999ZZ saving;renumber 7 to 8;replace 3 1 2 3 4 5 6");
        int[][] due = {{0, 729, -1, -1, 0, 1, 0, 0, 0}, {1, 729, -1, -1, 1, 2, 0, 0, -1}, {2, 756, -1, -1, 0, 0, 1, -1, -1},
            {3, 729, 728999, -1, 0, 0, 0, 0, -1}, {4, 728999, 999, 0, 0, 0, 0, 0, -1}, {0, 2187, -1, -1, 0, 0, 0, 1, 1},
            {4, 728999, 0, 0, 1, 0, 0, 0, -1}, {2, 728999, -1, -1, 1, 0, 0, 0, -1}, {3, 5103, 5832, -1, 0, 0, 1, -1, -1},
            {1, 2187, -1, -1, 0, 6, 0, 1, -1}};
        for (int i = 0; i < due.length; i++) {
            for (int what = 0; what < 9; what++) {
                CHECK.due("operation " + i + " " + what, book.operation(i / 5, i % 5, what), due[i][what]);
            }
        }
        CHECK.due("no operation of the next amendment", book.operation(0, 5, 0), -2);
        CHECK.due("no word of the next operation", book.word(0, 0, 1), -2);
        CHECK.due("the last word", book.word(1, 4, 5), 6);
        CHECK.due("none behind it", book.word(1, 4, 6), -2);
    }

    /** "the day of the amendment with the last operation that has had an effect on it", on that day and in that case */
    private static void lastEffect() {
        Book book = Book.of("1 insert 1 5;insert 2", "3 renumber 1 to 4", "5 in 4 for 5 put 6 saving", "7 in 4 for 5 put 7",
                "9999 replace 4");
        int[][] due = {{1, -1, 1}, {2, -1, 1}, {3, -1, 3}, {4, -1, 3}, {5, -1, 5}, {5, 4, 3}, {6, 4, 3}, {7, -1, 5}, {7, 4, 7},
            {9998, 0, 7}, {9999, -1, 9999}};
        for (int[] each : due) {
            int index = each[0] < 3 ? 0 : 1;
            CHECK.due("last day on " + each[0] + ", " + each[1], book.clause(each[0], each[1], index, 3), each[2]);
        }
        CHECK.due("the other one", book.clause(9999, -1, 0, 3), 1);
    }

    /** "index of the clause, from 0", and "index of the word": the first, the last and those beside them */
    private static void firstAndLastClause() {
        Book book = Book.of("1 insert 3 7 8;insert 1 1 2 3 4 5 6;insert 2");
        int[] lengths = {6, 0, 2};
        for (int i = 0; i < lengths.length; i++) {
            CHECK.due("words of " + i, book.clause(1, -1, i, 2), lengths[i]);
            CHECK.due("word -1 of " + i, book.textWord(1, -1, i, -1), -2);
            for (int k = 0; k < 8; k++) {
                int word = i == 0 ? k + 1 : k + 7;
                CHECK.due("word " + k + " of " + i, book.textWord(1, -1, i, k), k < lengths[i] ? word : -2);
            }
        }
        for (int what = 0; what < 4; what++) {
            CHECK.due("clause -1", book.clause(1, -1, -1, what), -2);
            CHECK.due("clause 3", book.clause(1, -1, 3, what), -2);
        }
        CHECK.due("word of clause -1", book.textWord(1, -1, -1, 0), -2);
        CHECK.due("word of clause 3", book.textWord(1, -1, 3, 0), -2);
    }

    /** "an integer without leading zeros; @ and the present number for a reference; ? for a void one" */
    private static void printedForms() {
        Book book = Book.of("0 insert 001 000 001 009 010 099 100;insert 010A 0 9 999;insert 099ZZ @1 @10A;insert 999 @99ZZ",
                "1 repeal 1", "2 renumber 10A to 100;repeal 999;repeal 99ZZ");
        CHECK.dueLaw(book, 0, -1, "1 0 1 9 10 99 100/10A 0 9 999/99ZZ @1 @10A/999 @99ZZ/");
        CHECK.dueLaw(book, 1, -1, "10A 0 9 999/99ZZ ? @10A/999 @99ZZ/");
        CHECK.dueLaw(book, 2, -1, "100 0 9 999/");
        CHECK.due("bytes", book.print(1, -1), 12 + 12 + 10);
        CHECK.due("a blank", book.printed(3), 32);
        CHECK.due("the line feed", book.printed(11), 10);
        CHECK.due("the last byte", book.printed(33), 10);
        CHECK.due("none behind it", book.printed(34), -1);
    }

    /** Each number of letters, with the first and the last letter, as a number and in a reference */
    private static void printedNumbers() {
        Book book = Book.of("0 insert 1;insert 1A;insert 1AA;insert 1AZ;insert 1Z;insert 1ZA;insert 1ZZ",
                "0 insert 2 @1 @1A @1AA @1AZ @1Z @1ZA;insert 10 @1ZZ @2");
        CHECK.dueLaw(book, 0, -1, "1/1A/1AA/1AZ/1Z/1ZA/1ZZ/2 @1 @1A @1AA @1AZ @1Z @1ZA/10 @1ZZ @2/");
    }
}
