import java.util.function.ToLongFunction;

/** The boundary cases of 'Errors' and 'Days': each refused call of each method, and that it changes nothing. */
public final class BoundaryErrorTest {
    private static final Check CHECK = new Check("BoundaryErrorTest");
    private static final int LEAST = Integer.MIN_VALUE, GREATEST = Integer.MAX_VALUE;

    private static final int[] WRONG_DAYS = {-1, -2, 10000, 10001, -9999, LEAST, GREATEST};
    private static final int[] WRONG_CASES = {-2, -3, 10000, 10001, LEAST, GREATEST};
    private static final int[] WRONG_WORDS = {-1, 1000, 1001, 1729, LEAST, GREATEST};
    /** The sample has the amendments 0 and 1; a shift by 32, 33 or -31 would come round to them. */
    private static final int[] WRONG_AMENDMENTS = {-1, 2, 3, 19, 20, 32, 33, -31, -32, 64, LEAST, GREATEST};
    /** The sample has the identities 0 to 2. */
    private static final int[] WRONG_IDENTITIES = {-2, 3, 4, 39, 40, LEAST, GREATEST};
    private static final int[] NO_CODES = {-1, 0, 1, 26, 27, 728, 730, 755, 729 * 2 + 26, 729000, 729027,
        -729, -756, LEAST, GREATEST};

    public static void main(String[] args) {
        typeAndEnact();
        changes();
        amendmentsAndOperations();
        law();
        questions();
        whatIf();
        snapshotsAndCounts();
        stateErrors();
        fullErrors();
        orderOfErrors();
        noneOnlyWithoutAnError();
        questionsChangeNothing();
        firstAndLastDay();
        CHECK.end();
    }

    // ---- "A call that returns an error changes nothing"

    /** Two amendments, three identities, seven states, one snapshot of two, an output and a text. */
    private static Book sample() {
        Book book = Book.of("3 insert 1 5;insert 2 @1 6;insert 4 @2");
        book.save(0);
        book.enact("in 2 for 6 put 7 saving;renumber 1 to 9A;repeal 4", 5);
        book.revoke(0, true);
        book.revoke(0, false);
        book.commence(1, 6);
        book.enact("repeal 9A", 8);
        book.withdraw();
        book.print(6, -1);
        return book.say("insert 7 5");
    }

    /** All that can be seen of a book, also of its history and its snapshots, as one number. */
    private static long everything(Book book) {
        long all = book.digest();
        for (int left = book.undo(); left >= 0; left = book.undo()) {
            all = 37 * (37 * all + left) + book.digest();
        }
        for (int k = 0; k <= 1; k++) {
            all = 37 * (37 * all + book.restore(k)) + book.digest();
        }
        all = 37 * (37 * all + book.enact(1)) + book.digest();
        return 37 * (37 * all + book.undo()) + book.digest();
    }

    private static void unchanged(String call, Book book, Book same) {
        CHECK.due("all after " + call, everything(book), everything(same));
    }

    private static void answered(String call, ToLongFunction<Book> made, long due) {
        Book book = sample();
        CHECK.due(call, made.applyAsLong(book), due);
        unchanged(call, book, sample());
    }

    private static void bad(String call, ToLongFunction<Book> made) {
        answered(call, made, -2);
    }

    // ---- BAD

    private static void typeAndEnact() {
        for (int letter : new int[] {-1, 128, 256, LEAST, GREATEST}) {
            bad("type " + letter, book -> book.type(letter));
        }
        for (int day : WRONG_DAYS) {
            bad("enact " + day, book -> book.enact(day));
        }
    }

    private static void changes() {
        for (int a : WRONG_AMENDMENTS) {
            bad("revoke " + a, book -> book.revoke(a, true));
            bad("reinstate " + a, book -> book.revoke(a, false));
            bad("commence " + a, book -> book.commence(a, 7));
        }
        for (int day : WRONG_DAYS) {
            bad("commence to " + day, book -> book.commence(0, day));
            bad("commence of none to " + day, book -> book.commence(2, day));
            bad("tidy " + day, book -> book.tidy(day));
        }
    }

    private static int[] wrongParts(int last) {
        return new int[] {-1, last + 1, last + 2, -2, 32, LEAST, GREATEST};
    }

    private static void amendmentsAndOperations() {
        for (int a : WRONG_AMENDMENTS) {
            bad("amendment " + a, book -> book.amendment(a, 0));
            bad("operation of " + a, book -> book.operation(a, 0, 0));
            bad("word of " + a, book -> book.word(a, 0, 0));
        }
        for (int what : wrongParts(3)) {
            bad("amendment what " + what, book -> book.amendment(0, what));
        }
        for (int what : wrongParts(8)) {
            bad("operation what " + what, book -> book.operation(0, 0, what));
        }
        for (int op : new int[] {-1, 3, 4, 5, 6, 40, 120, LEAST, GREATEST}) {
            bad("operation " + op, book -> book.operation(0, op, 0));
            bad("operation of the last one " + op, book -> book.operation(1, op, 0));
            bad("word of operation " + op, book -> book.word(0, op, 0));
        }
        for (int k : new int[] {-1, 2, 3, 6, 7, LEAST, GREATEST}) {
            bad("word " + k, book -> book.word(0, 1, k));
            bad("word of a change " + k, book -> book.word(1, 0, k));
        }
        for (int op = 0; op <= 2; op++) {
            int operation = op;
            bad("word of an operation without words " + op, book -> book.word(1, operation, 0));
        }
    }

    private static void law() {
        for (int day : WRONG_DAYS) {
            lawOf(day, -1);
            lawOf(day, 0);
        }
        for (int caseDay : WRONG_CASES) {
            lawOf(0, caseDay);
            lawOf(6, caseDay);
        }
        for (int i : new int[] {-1, 2, 3, 39, 40, LEAST, GREATEST}) {
            bad("clause " + i, book -> book.clause(6, -1, i, 0));
            bad("word of clause " + i, book -> book.textWord(6, -1, i, 0));
        }
        for (int what : wrongParts(3)) {
            bad("clause what " + what, book -> book.clause(6, -1, 0, what));
        }
        for (int k : new int[] {-1, 2, 6, LEAST, GREATEST}) {
            bad("word " + k, book -> book.textWord(6, -1, 0, k));
        }
        bad("clause of no law", book -> book.clause(2, -1, 0, 0));
        bad("word of no law", book -> book.textWord(2, -1, 0, 0));
        for (int code : NO_CODES) {
            bad("find " + code, book -> book.find(6, -1, code));
        }
        for (int i : new int[] {-1, -2, -1000, LEAST}) {
            bad("printed " + i, book -> book.printed(i));
        }
    }

    private static void lawOf(int day, int caseDay) {
        String law = day + " " + caseDay;
        bad("clauses " + law, book -> book.clauses(day, caseDay));
        bad("clause " + law, book -> book.clause(day, caseDay, 0, 0));
        bad("textWord " + law, book -> book.textWord(day, caseDay, 0, 0));
        bad("find " + law, book -> book.find(day, caseDay, 729));
        bad("print " + law, book -> book.print(day, caseDay));
    }

    private static void questions() {
        for (int identity : WRONG_IDENTITIES) {
            bad("history of " + identity, book -> book.history(identity, 0, 0));
            bad("references to " + identity, book -> book.references(6, identity));
            bad("reach of " + identity, book -> book.reach(6, identity, 0));
        }
        bad("history of NONE", book -> book.history(-1, 0, 0));
        bad("reach of NONE", book -> book.reach(6, -1, 0));
        for (int k : new int[] {-1, -2, LEAST}) {
            bad("history " + k, book -> book.history(0, k, 0));
            bad("conflict " + k, book -> book.conflict(k, 0));
        }
        for (int what : wrongParts(2)) {
            bad("history what " + what, book -> book.history(0, 0, what));
            bad("reach what " + what, book -> book.reach(6, 0, what));
        }
        for (int day : WRONG_DAYS) {
            bad("difference from " + day, book -> book.difference(day, 6, 0));
            bad("difference to " + day, book -> book.difference(6, day, 0));
            bad("difference of twice " + day, book -> book.difference(day, day, 0));
            bad("containing " + day, book -> book.containing(day, 5));
            bad("references " + day, book -> book.references(day, 0));
            bad("void references " + day, book -> book.references(day, -1));
            bad("reach " + day, book -> book.reach(day, 0, 0));
        }
        for (int what : wrongParts(3)) {
            bad("difference what " + what, book -> book.difference(3, 6, what));
        }
        for (int word : WRONG_WORDS) {
            bad("containing the word " + word, book -> book.containing(6, word));
        }
        for (int what : wrongParts(6)) {
            bad("tally " + what, book -> book.tally(what));
        }
        for (int what : wrongParts(4)) {
            bad("conflict what " + what, book -> book.conflict(0, what));
        }
    }

    private static void whatIf() {
        for (int a : WRONG_AMENDMENTS) {
            bad("effect of " + a, book -> book.effect(a, 6));
        }
        for (int day : WRONG_DAYS) {
            bad("effect on " + day, book -> book.effect(0, day));
            bad("effect of none on " + day, book -> book.effect(2, day));
            bad("fewestRevocations " + day, book -> book.fewestRevocations(day, 5));
            bad("between " + day, book -> book.between(day, 729));
        }
        for (int word : WRONG_WORDS) {
            bad("fewestRevocations of " + word, book -> book.fewestRevocations(6, word));
        }
        for (int code : NO_CODES) {
            bad("between " + code, book -> book.between(6, code));
        }
    }

    private static void snapshotsAndCounts() {
        for (int k : new int[] {-1, 2, 3, 31, 32, 33, -31, -32, 64, LEAST, GREATEST}) {
            bad("save " + k, book -> book.save(k));
            bad("restore " + k, book -> book.restore(k));
        }
        for (int what : wrongParts(8)) {
            bad("count " + what, book -> book.count(what));
        }
    }

    // ---- STATE and FULL

    private static void stateErrors() {
        answered("revoke of a revoked one", BoundaryErrorTest::revokedTwice, -3);
        answered("reinstate one that is not revoked", book -> book.revoke(0, false), -3);
        answered("reinstate the last one", book -> book.revoke(1, false), -3);
        answered("restore of nothing", book -> book.restore(1), -3);
        answered("reach of a clause that is not in force any more", book -> book.reach(6, 2, 0), -3);
        answered("reach of a clause that is not in force yet", book -> book.reach(2, 0, 2), -3);
        answered("between without a clause", book -> book.between(6, 729), -3);
        answered("between on a day without a clause", book -> book.between(2, 729), -3);
        answered("tidy of no clause", book -> book.tidy(2), -3);
        Book empty = new Book().say("abc");
        CHECK.due("withdraw", empty.withdraw(), -3);
        CHECK.due("undo", empty.undo(), -3);
        CHECK.due("restore 0", empty.restore(0), -3);
        CHECK.due("restore 1", empty.restore(1), -3);
        CHECK.due("tidy", empty.tidy(9999), -3);
        unchanged("STATE of an empty book", empty, new Book().say("abc"));
        Book tidied = Book.of("1 insert 1;insert 2");
        CHECK.due("tidy of what is tidy", tidied.tidy(1), -3);
        unchanged("tidy of what is tidy", tidied, Book.of("1 insert 1;insert 2"));
    }

    /** Revokes amendment 1 twice, and takes the first of these changes back. */
    private static long revokedTwice(Book book) {
        book.revoke(1, true);
        int states = book.count(3);
        long answer = book.revoke(1, true);
        CHECK.due("states after the second one", book.count(3), states);
        CHECK.due("revoked", book.amendment(1, 1), 1);
        CHECK.due("undo of the first one", book.undo(), states - 1);
        return answer;
    }

    private static Book twentyAmendments() {
        Book book = new Book();
        for (int i = 0; i < 20; i++) {
            book.enact(i == 0 ? "insert2" : "repeal1", 19 - i);
        }
        book.save(0);
        return book;
    }

    private static void fullErrors() {
        Book typed = new Book().say("x".repeat(120));
        CHECK.due("type", typed.type('y'), -4);
        unchanged("type into a full text", typed, new Book().say("x".repeat(120)));
        Book book = twentyAmendments().say("repeal 1");
        CHECK.due("enact", book.enact(0), -4);
        unchanged("enact of a 21st amendment", book, twentyAmendments().say("repeal 1"));
        Book other = twentyAmendments().say("repeal 1");
        CHECK.due("tidy", other.tidy(19), -4);
        unchanged("tidy with a 21st amendment", other, twentyAmendments().say("repeal 1"));
    }

    // ---- "If several of them apply to a call, the one that comes first in the description of the result is returned"

    private static void orderOfErrors() {
        bad("revoke of no amendment", book -> book.revoke(2, false));
        bad("reach: a wrong what before STATE", book -> book.reach(2, 0, 3));
        bad("reach: a wrong identity before STATE", book -> book.reach(2, 3, 0));
        bad("between: no code before STATE", book -> book.between(2, 730));
        bad("restore: BAD before STATE", book -> book.restore(2));
        bad("tidy: BAD before STATE", book -> new Book().tidy(-1));
        answered("between: STATE before NONE", book -> book.between(2, 729 * 999 + 728), -3);
        Book full = twentyAmendments();
        CHECK.due("tidy: STATE before FULL", full.tidy(18), -3);
        CHECK.due("tidy: FULL", full.tidy(19), -4);
        CHECK.due("tidy: BAD before FULL", full.tidy(10000), -2);
        CHECK.due("enact: a fault before FULL", full.enact(0), -2000);
        CHECK.due("enact: BAD before a fault", full.enact(10000), -2);
        full.say("x".repeat(120));
        CHECK.due("type: FULL", full.type(0), -4);
        CHECK.due("type: BAD before FULL", full.type(128), -2);
    }

    /** "NONE is not an error; ... and is returned only if no error applies" */
    private static void noneOnlyWithoutAnError() {
        answered("history behind the end", book -> book.history(0, 2, 0), -1);
        answered("history far behind the end", book -> book.history(0, GREATEST, 2), -1);
        bad("history behind the end, wrong what", book -> book.history(0, 2, 3));
        bad("history behind the end, wrong identity", book -> book.history(3, 2, 0));
        answered("conflict behind the end", book -> book.conflict(0, 0), -1);
        answered("conflict far behind the end", book -> book.conflict(GREATEST, 4), -1);
        bad("conflict behind the end, wrong what", book -> book.conflict(0, 5));
        answered("find of a free number", book -> book.find(6, -1, 729), -1);
        bad("find of a free number, wrong day", book -> book.find(10000, -1, 729));
        bad("find of a free number, wrong case", book -> book.find(6, -2, 729));
        answered("new number of a repeal", book -> book.operation(1, 2, 2), -1);
        bad("new number of a repeal that is not there", book -> book.operation(1, 3, 2));
        answered("printed behind the end", book -> book.printed(GREATEST), -1);
        answered("no set", book -> noSet().fewestRevocations(0, 5), -1);
        bad("no set, wrong day", book -> noSet().fewestRevocations(10000, 5));
        answered("no number", book -> Book.of("0 insert 1;insert 1A").between(0, 729), -1);
        bad("no number, wrong day", book -> Book.of("0 insert 1;insert 1A").between(-1, 729));
    }

    private static Book noSet() {
        return Book.of("0 insert 1 5", "0 insert 2 5", "0 insert 3 5");
    }

    // ---- what is no change

    /** Only the changes, type(), clear(), undo(), print(), save() and restore() change something. */
    private static void questionsChangeNothing() {
        answered("amendment", book -> book.amendment(1, 3), 3);
        answered("operation", book -> book.operation(1, 0, 6), 0);
        answered("word", book -> book.word(0, 1, 0), 1729);
        answered("clauses", book -> book.clauses(6, 5), 2);
        answered("clause", book -> book.clause(6, 5, 1, 0), 9 * 729 + 27);
        answered("textWord", book -> book.textWord(6, 5, 0, 1), 6);
        answered("find", book -> book.find(6, -1, 1458), 0);
        answered("printed", book -> book.printed(0), '2');
        answered("history", book -> book.history(0, 1, 1), 3);
        answered("difference", book -> book.difference(3, 6, 1), 1);
        answered("containing", book -> book.containing(3, 5), 1);
        answered("references", book -> book.references(3, 1), 1);
        answered("reach", book -> book.reach(3, 2, 0), 3);
        answered("tally", book -> book.tally(0), 6);
        answered("effect", book -> book.effect(1, 6), 3);
        answered("fewestRevocations", book -> book.fewestRevocations(6, 7), 1);
        answered("between", book -> book.between(6, 1458), 2187);
        answered("count", book -> book.count(8), 2);
        answered("digest", book -> book.digest() - sample().digest(), 0);
    }

    /** "Days are numbered from 0 to 9999": the first and the last one are days, for each method. */
    private static void firstAndLastDay() {
        for (int day : new int[] {0, 9999}) {
            Book book = Book.of(day + " insert 3 5;insert 4 @3");
            CHECK.due("day", book.amendment(0, 0), day);
            CHECK.due("commence", book.commence(0, day), day);
            CHECK.due("clauses", book.clauses(day, day), 2);
            CHECK.due("clause", book.clause(day, day, 1, 3), day);
            CHECK.due("textWord", book.textWord(day, day, 0, 0), 5);
            CHECK.due("find", book.find(day, day, 4 * 729), 1);
            CHECK.due("print", book.print(day, day), 9);
            CHECK.due("history", book.history(0, 0, 0), day);
            CHECK.due("difference", book.difference(day, day, 2), 0);
            CHECK.due("difference to day 0", book.difference(day, 0, 1), day == 0 ? 0 : 2);
            CHECK.due("containing", book.containing(day, 5), 1);
            CHECK.due("references", book.references(day, 0), 1);
            CHECK.due("reach", book.reach(day, 1, 0), 2);
            CHECK.due("effect", book.effect(0, day), 2);
            CHECK.due("fewestRevocations", book.fewestRevocations(day, 5), 1);
            CHECK.due("between", book.between(day, 4 * 729), 5 * 729);
            CHECK.due("tidy", book.tidy(day), 1);
            CHECK.due("commence from there", book.commence(1, 9999 - day), day);
            CHECK.due("and back", book.commence(1, day), 9999 - day);
            CHECK.due("the full law", book.count(8), 2);
            CHECK.dueLaw(book, day, -1, "1 5/2 @1/");
        }
    }
}
