/** The boundary cases of promises 18 to 28: the questions about the plain law, and what would be. */
public final class BoundaryQuestionTest {
    private static final Check CHECK = new Check("BoundaryQuestionTest");

    public static void main(String[] args) {
        endOfAHistory();
        orderOfAHistory();
        differenceOfOneDay();
        differenceBothWays();
        differenceOfTexts();
        containingCountsClauses();
        containingAtTheEdges();
        referencesCountSeverally();
        referencesToNone();
        reachOfOneClause();
        reachInARound();
        leastDistance();
        reachNeedsForce();
        tallyOfEachStatus();
        effectOfNothing();
        effectCountsAClauseOnce();
        effectToReinstate();
        savingInThePlainLaw();
        noRevocation();
        oneRevocation();
        twoRevocations();
        smallestSet();
        onlyFurtherRevocations();
        noSetOfTwo();
        betweenIntegers();
        betweenLetters();
        betweenAtTheEnd();
        betweenAllNeighbours();
        tidyOfWhatIsTidy();
        tidyOfOne();
        tidyUpAndDown();
        tidyKeepsTheText();
        tidyOfADay();
        CHECK.end();
    }

    // ---- history

    /** "NONE if there are not so many": the last part, and the one behind it */
    private static void endOfAHistory() {
        Book book = Book.of("0 insert 1 5;insert 1;insert 2", "9999 repeal 1");
        int[][] due = {{0, 0, 0}, {9999, 2, 1}};
        for (int k = 0; k < due.length; k++) {
            for (int what = 0; what < 3; what++) {
                CHECK.due("history " + k + " " + what, book.history(0, k, what), due[k][what]);
            }
        }
        for (int what = 0; what < 3; what++) {
            CHECK.due("behind it " + what, book.history(0, 2, what), -1);
            CHECK.due("far behind it " + what, book.history(0, Integer.MAX_VALUE, what), -1);
            CHECK.due("of one without an effect " + what, book.history(1, 0, what), -1);
            CHECK.due("of one operation " + what, book.history(2, 1, what), -1);
        }
        CHECK.due("the last identity", book.history(2, 0, 1), 0);
        CHECK.due("none behind it", book.history(3, 0, 1), -2);
        CHECK.due("the first identity", book.history(-1, 0, 1), -2);
        book.revoke(0, true);
        CHECK.due("of a revoked one", book.history(0, 0, 0), -1);
        CHECK.due("identities stay", book.history(3, 0, 0), -2);
        book.withdraw();
        book.withdraw();
        CHECK.due("identities go", book.history(0, 0, 0), -2);
    }

    /** "of the operations that have an effect on it ..., in their order": by days, not by numbers; saving ones too */
    private static void orderOfAHistory() {
        Book book = Book.of("7 in 2 for 5 put 6;in 2 for 5 put 7;repeal 2 saving", "3 renumber 1 to 2 ;replace 2 5 5", "1 insert 1 5",
                "3 replace 2 5 saving");
        int[][] due = {{1, 0, 2}, {3, 3, 1}, {3, 1, 1}, {3, 1, 3}, {7, 4, 0}, {7, 2, 0}};
        for (int k = 0; k < due.length; k++) {
            for (int what = 0; what < 3; what++) {
                CHECK.due("history " + k + " " + what, book.history(0, k, what), due[k][what]);
            }
        }
        CHECK.due("the end", book.history(0, due.length, 0), -1);
    }

    // ---- difference

    private static void difference(Book book, int first, int second, int... due) {
        for (int what = 0; what < 4; what++) {
            CHECK.due("difference " + first + " " + second + " " + what, book.difference(first, second, what), due[what]);
        }
    }

    /** "another day, or the same one" */
    private static void differenceOfOneDay() {
        Book book = Book.of("0 insert 1 5;insert 2 @1", "9999 renumber 1 to 3;replace 2 7");
        for (int day : new int[] {0, 1, 9998, 9999}) {
            difference(book, day, day, 0, 0, 0, 0);
        }
        difference(book, 0, 9998, 0, 0, 0, 0);
        difference(book, 9998, 9999, 0, 0, 1, 1);
        difference(new Book(), 0, 9999, 0, 0, 0, 0);
    }

    /** "it may be earlier" */
    private static void differenceBothWays() {
        Book book = Book.of("1 insert 1 5;insert 2 @1;insert 3", "2 repeal 1;insert 1;insert 4;renumber 2 to 7;replace 3 9;repeal 9");
        difference(book, 0, 1, 3, 0, 0, 0);
        difference(book, 1, 0, 0, 3, 0, 0);
        difference(book, 1, 2, 2, 1, 1, 1);
        difference(book, 2, 1, 1, 2, 1, 1);
        difference(book, 2, 0, 0, 4, 0, 0);
        difference(book, 0, 2, 4, 0, 0, 0);
    }

    /** "texts are the same if they have the same number of words, and these are equal ..., void or not" */
    private static void differenceOfTexts() {
        Book book = Book.of("1 insert 1;insert 2;insert 9 1 2 3 4 5 6;insert 8 @1", "2 replace 9 1 2 3 4 5 7", "3 replace 9 1 2 3 4 5",
                "4 replace 9", "5 repeal 1", "6 replace 8 @2", "7 renumber 2 to 1", "8 replace 8 0", "9 in 8 for 0 put 0");
        int[] due = {1, 1, 1, 0, 1, 0, 1, 0};
        for (int i = 0; i < due.length; i++) {
            CHECK.due("texts of " + (i + 1), book.difference(i + 1, i + 2, 3), due[i]);
            CHECK.due("and back", book.difference(i + 2, i + 1, 3), due[i]);
        }
        CHECK.due("texts of day 1 and 9", book.difference(1, 9, 3), 2);
        CHECK.due("a clause that is not in force on both has no text", book.difference(1, 0, 3), 0);
        CHECK.due("nor another code", book.difference(1, 0, 2), 0);
    }

    // ---- containing and references

    /** "Counts the clauses that contain a plain word": once each, and in force alone */
    private static void containingCountsClauses() {
        Book book = Book.of("1 insert 1 5 5 5 5 5 5;insert 2 1 2 3 4 6 5;insert 3 5 1;insert 4", "2 repeal 2", "3 in 1 for 5 put 6");
        int[] due = {0, 3, 2, 1};
        for (int day = 0; day < due.length; day++) {
            CHECK.due("5 on day " + day, book.containing(day, 5), due[day]);
        }
        CHECK.due("the word that was put", book.containing(3, 6), 1);
    }

    /** "word: 0 to 999"; a reference is no plain word, whatever its code or identity is */
    private static void containingAtTheEdges() {
        Book book = Book.of("0 insert 1 0;insert 2 999;insert 3 @1 @2;insert 4");
        int[][] due = {{0, 1}, {999, 1}, {1, 0}, {2, 0}, {729, 0}, {458, 0}, {998, 0}};
        for (int[] each : due) {
            CHECK.due("containing " + each[0], book.containing(0, each[0]), each[1]);
        }
        CHECK.due("containing 1000", book.containing(0, 1000), -2);
        CHECK.due("containing 1001", book.containing(0, 1001), -2);
        CHECK.due("containing -1", book.containing(0, -1), -2);
    }

    /** "several in one text count severally"; those of a clause to itself count, those of repealed texts do not */
    private static void referencesCountSeverally() {
        Book book = Book.of("1 insert 1;insert 2 @1 @1 @1 @1 @1 @1;insert 3 @2 @1;replace 1 @1 @1", "2 repeal 2", "3 replace 3");
        int[][] due = {{0, 0, 0, 0, 0}, {1, 9, 1, 0, 0}, {2, 3, 1, 0, 1}, {3, 2, 0, 0, 0}};
        for (int[] each : due) {
            for (int identity = 0; identity < 3; identity++) {
                CHECK.due("to " + identity + " on " + each[0], book.references(each[0], identity), each[identity + 1]);
            }
            CHECK.due("void on " + each[0], book.references(each[0], -1), each[4]);
        }
    }

    /** "NONE for all void references"; "whether it is in force or not" */
    private static void referencesToNone() {
        Book book = Book.of("1 insert 1;insert 2;insert 3 @1 @2 @1;insert 4 @2;insert 4", "2 repeal 1", "3 repeal 2", "4 repeal 3");
        int[][] due = {{1, 2, 2, 0}, {2, 2, 2, 2}, {3, 2, 2, 4}, {4, 0, 1, 1}};
        for (int[] each : due) {
            CHECK.due("to 0 on " + each[0], book.references(each[0], 0), each[1]);
            CHECK.due("to 1 on " + each[0], book.references(each[0], 1), each[2]);
            CHECK.due("void on " + each[0], book.references(each[0], -1), each[3]);
        }
        CHECK.due("to one that never was in force", book.references(4, 4), 0);
        CHECK.due("no identity", book.references(4, 5), -2);
        CHECK.due("no identity", book.references(4, -2), -2);
    }

    // ---- reach

    private static void reach(Book book, int day, int identity, int... due) {
        for (int what = 0; what < 3; what++) {
            CHECK.due("reach " + day + " " + identity + " " + what, book.reach(day, identity, what), due[what]);
        }
    }

    /** "the first one included": alone, and alone with a reference to itself */
    private static void reachOfOneClause() {
        Book book = Book.of("1 insert 1;insert 2 5 @1;replace 2 @2 7", "2 replace 1 @2");
        reach(book, 1, 0, 1, 0, 0);
        reach(book, 1, 1, 1, 0, 1);
        reach(book, 2, 0, 2, 1, 0);
    }

    /** "1 if a reference in the text of a clause that is reached ... refers to the first one" */
    private static void reachInARound() {
        Book book = Book.of("1 insert 1;insert 2 @1;insert 3 @2;insert 4 @3;insert 5 @4", "2 replace 1 @4", "3 replace 4 @3 @4");
        reach(book, 1, 4, 5, 4, 0);
        for (int identity = 0; identity < 4; identity++) {
            reach(book, 1, identity, identity + 1, identity, 0);
            reach(book, 2, identity, 4, 3, 1);
        }
        reach(book, 2, 4, 5, 4, 0);
        reach(book, 3, 3, 4, 3, 1);
        reach(book, 3, 4, 5, 4, 0);
    }

    /** "the least number of references that lead to it", whichever is told first */
    private static void leastDistance() {
        Book book = Book.of("1 insert 1;insert 2 @1;insert 3 @2 @1;insert 4 @3 @2 @1", "2 insert 5;replace 1 @5");
        reach(book, 1, 3, 4, 1, 0);
        reach(book, 1, 2, 3, 1, 0);
        reach(book, 2, 3, 5, 2, 0);
        Book other = Book.of("1 insert 1;insert 2 @1;insert 3 @2;insert 4 @1 @3");
        reach(other, 1, 3, 4, 2, 0);
        Book twice = Book.of("1 insert 1;insert 2 @1 @1 @1;insert 3 @1 @2 @1");
        reach(twice, 1, 2, 3, 1, 0);
    }

    /** "STATE if the clause is not in force"; only clauses in force are reached, and a void reference leads to none. */
    private static void reachNeedsForce() {
        Book book = Book.of("1 insert 1;insert 2 @1;insert 3 @2;insert 3;replace 1 @3", "2 repeal 2", "3 insert 2 @1");
        reach(book, 1, 2, 3, 2, 1);
        reach(book, 2, 2, 1, 0, 0);
        reach(book, 2, 0, 2, 1, 0);
        reach(book, 2, 1, -3, -3, -3);
        reach(book, 3, 1, -3, -3, -3);
        reach(book, 3, 3, -3, -3, -3);
        reach(book, 3, 4, 3, 2, 0);
        reach(book, 0, 0, -3, -3, -3);
        CHECK.due("no identity", book.reach(3, 5, 0), -2);
    }

    /** Each status by itself, with the others at 0 */
    private static void tallyOfEachStatus() {
        String[] texts = {"insert 1", "repeal 1", "renumber 2 to 2", "in 2 for 5 put 6", "insert 3 @9", "insert 4"};
        for (int status = 0; status <= 5; status++) {
            Book book = Book.of("0 insert 2", "1 " + texts[status]);
            if (status == 5) {
                book.revoke(1, true);
            }
            for (int what = 0; what <= 6; what++) {
                CHECK.due("tally " + what + " of status " + status, book.tally(what),
                        (what == 0 ? 1 : 0) + (what == status ? 1 : 0));
            }
            CHECK.due("status", book.operation(1, 0, 6), status);
        }
    }

    // ---- effect

    /** No clause differs: on an earlier day, without an effect, by a change to the same word, by a number taken twice. */
    private static void effectOfNothing() {
        Book book = Book.of("1 insert 1 5", "3 repeal 2", "3 in 1 for 5 put 5", "3 renumber 1 to 2;renumber 2 to 1", "3 replace 1 5");
        for (int a = 0; a < 5; a++) {
            CHECK.due("effect " + a + " on day 0", book.effect(a, 0), 0);
            CHECK.due("effect " + a + " on day 2", book.effect(a, 2), a == 0 ? 1 : 0);
            CHECK.due("effect " + a + " on day 3", book.effect(a, 3), a == 0 ? 1 : 0);
        }
        CHECK.due("none is revoked", book.count(6), 0);
        CHECK.due("states", book.count(3), 5);
    }

    /** "in force only before or only after that, or has another code or another text": each alone, and several at once */
    private static void effectCountsAClauseOnce() {
        Book book = Book.of("1 insert 1 5;insert 2 5;insert 3 5;insert 4 @1", "2 renumber 1 to 9", "3 in 2 for 5 put 6",
                "4 repeal 3", "5 insert 3 5", "6 renumber 2 to 8;replace 8 7", "7 repeal 9;insert 1 5");
        int[][] due = {{0, 1, 4}, {1, 2, 1}, {2, 3, 1}, {3, 4, 1}, {4, 5, 1}, {3, 5, 2}, {5, 6, 1}, {6, 7, 2}};
        for (int[] each : due) {
            CHECK.due("effect " + each[0] + " on " + each[1], book.effect(each[0], each[1]), each[2]);
        }
        CHECK.due("of what others repealed or inserted later, nothing differs", book.effect(0, 7), 2);
    }

    /** "(or, if it is revoked, reinstated)" */
    private static void effectToReinstate() {
        Book book = Book.of("1 insert 1;insert 2 5", "2 repeal 1;insert 3;insert 4");
        book.revoke(1, true);
        CHECK.due("the day before", book.effect(1, 1), 0);
        CHECK.due("the day", book.effect(1, 2), 3);
        CHECK.due("of the other one", book.effect(0, 2), 2);
        book.revoke(0, true);
        CHECK.due("then", book.effect(1, 2), 2);
        CHECK.due("the other one then", book.effect(0, 2), 2);
        CHECK.due("still revoked", book.count(6), 2);
    }

    /** "The plain law on a day is the law without a case": nothing that is saving is left out, before or after that. */
    private static void savingInThePlainLaw() {
        Book book = Book.of("1 insert 1 5;insert 3 5", "2 in 1 for 5 put 6 saving;repeal 3 saving", "3 insert 2 7", "4 repeal 2 saving");
        CHECK.due("effect of another one", book.effect(2, 3), 1);
        CHECK.due("effect of the repeal", book.effect(3, 4), 1);
        CHECK.due("effect of what is saving", book.effect(1, 4), 2);
        CHECK.due("difference", book.difference(1, 2, 1), 1);
        CHECK.due("difference of texts", book.difference(1, 2, 3), 1);
        CHECK.due("difference back", book.difference(4, 3, 0), 1);
        CHECK.due("containing", book.containing(2, 5), 0);
        CHECK.due("reach", book.reach(4, 2, 0), -3);
        CHECK.due("fewestRevocations", book.fewestRevocations(4, 5), 0);
        CHECK.due("fewestRevocations of the new word", book.fewestRevocations(4, 6), 1);
        CHECK.due("between", book.between(4, 729), 2 * 729);
        CHECK.due("tidy", book.tidy(4), -3);
        CHECK.due("clauses of the full law", book.count(8), 1);
    }

    // ---- fewestRevocations

    /** "0 if no clause contains the word" */
    private static void noRevocation() {
        Book book = Book.of("1 insert 1 5;insert 2 @1", "2 in 1 for 5 put 0", "3 repeal 1");
        int[][] due = {{0, 5}, {0, 0}, {1, 0}, {1, 1}, {1, 999}, {2, 5}, {3, 0}, {3, 5}};
        for (int[] each : due) {
            CHECK.due("word " + each[1] + " on day " + each[0], book.fewestRevocations(each[0], each[1]), 0);
        }
        CHECK.due("in an empty book", new Book().fewestRevocations(9999, 0), 0);
    }

    /** One amendment rather than two, also if its number is greater than that of a pair. */
    private static void oneRevocation() {
        Book book = Book.of("1 insert 1", "1 insert 2", "1 insert 3", "2 replace 1 0;replace 2 0;replace 3 0", "3 replace 3 999");
        CHECK.due("word 0", book.fewestRevocations(2, 0), 8);
        CHECK.due("word 999", book.fewestRevocations(3, 999), 4);
        CHECK.due("word 999 the day before", book.fewestRevocations(2, 999), 0);
        Book repeal = Book.of("1 insert 1 5", "2 repeal 1;insert 1 6", "3 in 1 for 6 put 7");
        CHECK.due("the smaller of two", repeal.fewestRevocations(3, 7), 2);
        CHECK.due("to bring back a repealed one does not help", repeal.fewestRevocations(2, 6), 2);
    }

    /** "At most two amendments are revoked" */
    private static void twoRevocations() {
        Book book = Book.of("1 insert 1 5", "2 insert 2 5", "3 insert 3 5");
        int[] due = {0, 1, 3, -1};
        for (int day = 0; day < due.length; day++) {
            CHECK.due("day " + day, book.fewestRevocations(day, 5), due[day]);
        }
        Book first = Book.of("1 insert 1", "2 insert 2 5", "3 insert 3 5", "3 insert 4");
        CHECK.due("a pair without the first one", first.fewestRevocations(3, 5), 6);
    }

    /** "of several the smallest number": of two pairs the one whose greater amendment is the smaller one */
    private static void smallestSet() {
        Book book = Book.of("1 insert 1;insert 2", "2 replace 1 5", "2 in 1 for 5 put 6", "2 replace 2 5", "2 in 2 for 5 put 6");
        CHECK.due("amendment 0 alone", book.fewestRevocations(2, 6), 1);
        Book pairs = Book.of("0 insert 1", "0 insert 2", "2 replace 2 5", "2 in 2 for 5 put 6", "2 replace 1 5", "2 in 1 for 5 put 6");
        CHECK.due("both inserts", pairs.fewestRevocations(2, 6), 3);
        Book crossed = Book.of("1 insert 1", "2 replace 1 5;insert 3", "3 insert 2", "4 replace 2 5;replace 3 5");
        CHECK.due("amendments 1 and 2 before 0 and 3", crossed.fewestRevocations(4, 5), 6);
        crossed.revoke(2, true);
        CHECK.due("then amendment 1 alone", crossed.fewestRevocations(4, 5), 2);
    }

    /** "further revocations ... of those that are not revoked" */
    private static void onlyFurtherRevocations() {
        Book book = Book.of("1 insert 1 5", "2 insert 2 5", "3 insert 3 5");
        CHECK.due("three sources", book.fewestRevocations(3, 5), -1);
        book.revoke(0, true);
        CHECK.due("two of them", book.fewestRevocations(3, 5), 6);
        book.revoke(2, true);
        CHECK.due("one of them", book.fewestRevocations(3, 5), 2);
        book.revoke(1, true);
        CHECK.due("none of them", book.fewestRevocations(3, 5), 0);
        Book repealed = Book.of("1 insert 1 5", "2 repeal 1", "3 insert 2 5");
        repealed.revoke(1, true);
        CHECK.due("a revoked repeal does not help", repealed.fewestRevocations(3, 5), 5);
        repealed.revoke(2, true);
        CHECK.due("one is left", repealed.fewestRevocations(3, 5), 1);
        CHECK.due("nothing is revoked by that", repealed.count(6), 2);
    }

    /** "NONE if there is no such set" */
    private static void noSetOfTwo() {
        Book book = Book.of("1 insert 1 5", "1 insert 1 5", "1 insert 1 5");
        CHECK.due("each insert takes the place of the one before", book.fewestRevocations(1, 5), -1);
        CHECK.due("NONE is no error, but BAD is", book.fewestRevocations(1, 1000), -2);
        book.withdraw();
        CHECK.due("two of them", book.fewestRevocations(1, 5), 3);
    }

    // ---- between

    private static void between(Book book, String number, String due) {
        CHECK.due("between behind " + number, book.between(0, Check.code(number)), due.isEmpty() ? -1 : Check.code(due));
    }

    /** "Of several one without letters is taken ...; of several of these the least one." */
    private static void betweenIntegers() {
        Book book = Book.of("0 insert 1;insert 3;insert 3ZZ;insert 5;insert 6A;insert 998;insert 998Z");
        String[][] due = {{"1", "2"}, {"3", "3A"}, {"3ZZ", "4"}, {"5", "6"}, {"6A", "7"}, {"998", "998A"}, {"998Z", "999"}};
        for (String[] each : due) {
            between(book, each[0], each[1]);
        }
    }

    /** "or else one with the fewest letters": one letter, two letters, none at all */
    private static void betweenLetters() {
        Book book = Book.of("0 insert 1;insert 1A;insert 1AB;insert 1AZ;insert 1B;insert 1Z;insert 1ZY;insert 1ZZ;insert 2;insert 2AA",
                "0 insert 2Y;insert 2Z;insert 3;insert 3Z;insert 3ZA;insert 4AB;insert 4AD;insert 4B;insert 4BB;insert 4D");
        String[][] due = {{"1", ""}, {"1A", "1AA"}, {"1AB", "1AC"}, {"1AZ", ""}, {"1B", "1C"}, {"1Z", "1ZA"}, {"1ZY", ""},
            {"1ZZ", ""}, {"2", "2A"}, {"2AA", "2B"}, {"2Y", "2YA"}, {"2Z", "2ZA"}, {"3", "3A"}, {"3Z", ""}, {"3ZA", "4"},
            {"4AB", "4AC"}, {"4AD", "4AE"}, {"4B", "4BA"}, {"4BB", "4C"}, {"4D", "5"}};
        for (String[] each : due) {
            between(book, each[0], each[1]);
        }
    }

    /** "less than that of the next clause in force, if there is one": 999 is the greatest integer */
    private static void betweenAtTheEnd() {
        String[][] due = {{"998", "999"}, {"998ZZ", "999"}, {"999", "999A"}, {"999A", "999B"}, {"999AB", "999B"}, {"999Y", "999Z"},
            {"999YZ", "999Z"}, {"999Z", "999ZA"}, {"999ZA", "999ZB"}, {"999ZY", "999ZZ"}, {"999ZZ", ""}};
        for (String[] each : due) {
            between(Book.of("0 insert " + each[0]), each[0], each[1]);
            between(Book.of("0 insert 1;insert " + each[0]), each[0], each[1]);
        }
        Book book = Book.of("0 insert 999;insert 999ZZ");
        between(book, "999", "999A");
        between(book, "999ZZ", "");
        CHECK.due("no clause on the next day", Book.of("1 insert 1").between(0, 729), -3);
    }

    /** Every pair of neighbours among these numbers, against a search through all codes. */
    private static void betweenAllNeighbours() {
        String[] numbers = {"7", "7A", "7AA", "7AB", "7AY", "7AZ", "7B", "7BA", "7Y", "7YZ", "7Z", "7ZA", "7ZY", "7ZZ", "8", "8A", "9"};
        for (int i = 0; i < numbers.length; i++) {
            for (int j = i + 1; j < numbers.length; j++) {
                Book book = Book.of("0 insert " + numbers[j] + ";insert " + numbers[i]);
                int code = Check.code(numbers[i]);
                int due = leastOfFewestLetters(code, Check.code(numbers[j]));
                CHECK.due("between " + numbers[i] + " and " + numbers[j], book.between(0, code), due);
            }
        }
    }

    private static int leastOfFewestLetters(int first, int end) {
        for (int letters = 0; letters <= 2; letters++) {
            for (int code = first + 1; code < end; code++) {
                int one = code % 729 / 27;
                int two = code % 27;
                int own = (one > 0 ? 1 : 0) + (two > 0 ? 1 : 0);
                if (own == letters && (one > 0 || two == 0)) {
                    return code;
                }
            }
        }
        return -1;
    }

    // ---- tidy

    /** "STATE if no number would change" */
    private static void tidyOfWhatIsTidy() {
        Book book = Book.of("1 insert 1;insert 2", "2 insert 3A", "3 renumber 3A to 3", "4 repeal 1", "5 repeal 2;repeal 3");
        int[] due = {-3, -3, 5, -3, 6, -3};
        for (int day = 0; day < due.length; day++) {
            CHECK.due("tidy " + day, book.tidy(day), due[day]);
        }
        CHECK.due("states", book.count(3), 7);
    }

    /** "It has one operation for each clause whose number changes" */
    private static void tidyOfOne() {
        String[][] due = {{"1A", "1"}, {"2", "1"}, {"999ZZ", "1"}};
        for (String[] each : due) {
            Book book = Book.of("3 insert " + each[0] + " 5");
            CHECK.due("tidy", book.tidy(3), 1);
            CHECK.due("operations", book.amendment(1, 2), 1);
            CHECK.due("number", book.operation(1, 0, 1), Check.code(each[0]));
            CHECK.due("new number", book.operation(1, 0, 2), Check.code(each[1]));
            CHECK.due("status", book.operation(1, 0, 6), 0);
            CHECK.dueLaw(book, 3, -1, "1 5/");
            CHECK.due("tidy again", book.tidy(3), -3);
        }
        Book last = Book.of("3 insert 1;insert 2;insert 3;insert 5");
        CHECK.due("tidy of the last one", last.tidy(3), 1);
        CHECK.due("operations", last.amendment(1, 2), 1);
        CHECK.due("new number", last.operation(1, 0, 2), 4 * 729);
    }

    /** "first those whose code becomes greater, in descending order ..., then those whose code becomes less, in ascending order" */
    private static void tidyUpAndDown() {
        String[][] texts = {{"1;insert 1A;insert 1B;insert 9", "1B 3 1A 2 9 4"}, {"1A;insert 1B;insert 2", "2 3 1B 2 1A 1"},
            {"5;insert 6;insert 7", "5 1 6 2 7 3"}, {"1;insert 1AA;insert 1AB;insert 1B", "1B 4 1AB 3 1AA 2"},
            {"1AB;insert 2;insert 2A;insert 2B;insert 9;insert 5A", "2B 4 2A 3 1AB 1 5A 5 9 6"}};
        for (String[] each : texts) {
            Book book = Book.of("3 insert " + each[0]);
            CHECK.due("tidy of " + each[0], book.tidy(3), 1);
            String[] due = each[1].split(" ");
            CHECK.due("operations", book.amendment(1, 2), due.length / 2);
            for (int i = 0; i < due.length / 2; i++) {
                CHECK.due("number " + i, book.operation(1, i, 1), Check.code(due[2 * i]));
                CHECK.due("new number " + i, book.operation(1, i, 2), Check.code(due[2 * i + 1]));
                CHECK.due("kind " + i, book.operation(1, i, 0), 3);
                CHECK.due("status " + i, book.operation(1, i, 6), 0);
            }
            CHECK.due("tidy again", book.tidy(3), -3);
        }
    }

    /** "The text stays.", an empty and a full one, whether it is a text of an amendment or not */
    private static void tidyKeepsTheText() {
        for (String text : new String[] {"", "insert 3 @2", "x", " ".repeat(120)}) {
            Book book = Book.of("1 insert 2").say(text);
            CHECK.due("tidy", book.tidy(1), 1);
            CHECK.due("bytes", book.count(4), text.length());
            CHECK.due("tidy again", book.tidy(1), -3);
            CHECK.due("bytes", book.count(4), text.length());
        }
        Book book = Book.of("1 insert 2").say("insert 3 @1");
        book.tidy(1);
        CHECK.due("enact of the text", book.enact(1), 2);
        CHECK.due("its operations", book.amendment(2, 2), 1);
        CHECK.dueLaw(book, 1, -1, "1/3 @1/");
    }

    /** "day: the day of the amendment, 0 to 9999; the law is that on this day" */
    private static void tidyOfADay() {
        Book book = Book.of("0 insert 5", "10 insert 3", "9999 insert 1");
        CHECK.due("tidy 9999", book.tidy(9999), 3);
        CHECK.dueLaw(book, 9999, -1, "1/2/3/");
        CHECK.dueLaw(book, 9998, -1, "3/5/");
        CHECK.due("tidy 0", book.tidy(0), 4);
        CHECK.due("its operations", book.amendment(4, 2), 1);
        CHECK.dueLaw(book, 0, -1, "1/");
        CHECK.dueLaw(book, 10, -1, "1/3/");
        CHECK.due("its day", book.amendment(4, 0), 0);
        CHECK.due("tidy 9", book.tidy(9), -3);
        CHECK.due("tidy 10", book.tidy(10), 5);
        CHECK.dueLaw(book, 10, -1, "1/2/");
        CHECK.due("the insert of day 9999 finds its number taken", book.operation(2, 0, 6), 2);
    }
}
