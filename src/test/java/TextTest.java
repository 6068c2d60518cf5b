/** Promises 1 to 4: a new object, type, clear, enact with the faults of a text. */
public final class TextTest {
    private static final Check CHECK = new Check("TextTest");

    public static void main(String[] args) {
        newObject();
        typeAndClear();
        validTexts();
        faultsOfWords();
        faultsOfDigitsAndLetters();
        faultsOfEndsAndCounts();
        enactAnswers();
        limitOfAmendments();
        limitOfIdentities();
        CHECK.end();
    }

    private static void newObject() {
        StatuteBook book = new StatuteBook();
        for (int what = 0; what <= 8; what++) {
            CHECK.due("new count " + what, book.count(what), 0);
        }
        CHECK.due("new clear", book.clear(), 0);
        CHECK.due("new printed", book.printed(0), -1);
        CHECK.due("new clauses", book.clauses(9999, -1), 0);
        CHECK.due("new withdraw", book.withdraw(), -3);
        CHECK.due("new undo", book.undo(), -3);
        CHECK.due("new restore", book.restore(0), -3);
    }

    private static void typeAndClear() {
        StatuteBook book = new StatuteBook();
        CHECK.due("type -1", book.type(-1), -2);
        CHECK.due("type 128", book.type(128), -2);
        CHECK.due("type 0", book.type(0), 1);
        CHECK.due("type 127", book.type(127), 2);
        for (int i = 3; i <= 120; i++) {
            CHECK.due("type no. " + i, book.type(32), i);
        }
        CHECK.due("type into a full text", book.type(32), -4);
        CHECK.due("wrong type into a full text", book.type(128), -2);
        CHECK.due("bytes", book.count(4), 120);
        CHECK.due("clear", book.clear(), 120);
        CHECK.due("clear again", book.clear(), 0);
        CHECK.due("type after clear", book.type(65), 1);
    }

    private static void valid(String text, int operations) {
        StatuteBook book = new StatuteBook();
        CHECK.due("enact " + text, Check.enact(book, text, 0), 0);
        CHECK.due("operations of " + text, book.amendment(0, 2), operations);
        CHECK.due("text after " + text, book.count(4), 0);
    }

    private static void validTexts() {
        valid("insert 1", 1);
        valid("insert1", 1);
        valid("  insert  999ZZ  ", 1);
        valid("insert 007 000 0 00", 1);
        valid("insert 1A5@2B6 7@3", 1);
        valid("insert 1 1 2 3 4 5 6", 1);
        valid("insert 1@1@2@3@4@5@6", 1);
        valid("replace 1", 1);
        valid("replace 1saving", 1);
        valid("replace 1 2 @3 saving", 1);
        valid("replace 1 2@3saving ; repeal 1", 2);
        valid("repeal1;repeal1saving;repeal 1 saving", 3);
        valid("renumber1to2", 1);
        valid("renumber 1A to 2BB ;renumber 1 to 1", 2);
        valid("in1for2put3", 1);
        valid("in 1AB for 000 put 999 saving", 1);
        valid("in1AB for2put3saving;in 1 for 2 put 3", 2);
        valid("repeal1;repeal1;repeal1;repeal1;repeal1;repeal1;repeal1;repeal1;"
                + "repeal1;repeal1;repeal1;repeal1;repeal1;repeal1;repeal1", 15);
    }

    private static void fault(String text, int index) {
        StatuteBook book = new StatuteBook();
        CHECK.due("enact " + text, Check.enact(book, text, 0), -2000 - index);
        CHECK.due("text after " + text, book.count(4), text.length());
        CHECK.due("amendments after " + text, book.count(0), 0);
    }

    private static void faultsOfWords() {
        fault("i", 0);
        fault("ins", 0);
        fault("inserts 1", 0);
        fault("  insertx1", 2);
        fault("saving", 0);
        fault("repea", 0);
        fault("Insert 1", 0);
        fault("insert a", 7);
        fault("1", 0);
        fault("insert 1;1 2", 9);
        fault("insert 1 saving", 9);
        fault("insert 1 to 2", 9);
        fault("renumber 1 too 2", 11);
        fault("renumber 1 t", 11);
        fault("renumber 1 2", 11);
        fault("renumber 1 for 2", 11);
        fault("renumber 1 to 2 saving", 16);
        fault("in 1 put 2 put 3", 5);
        fault("in 1 for 2 for 3", 11);
        fault("in 1 for 2 put 3 savin", 17);
        fault("in 1 for 2 put 3 savings", 17);
        fault("in 1 for 2 put 3 4", 17);
        fault("replace 1 s", 10);
        fault("replace 1 saving 5", 17);
        fault("replace 1 saving saving", 17);
        fault("repeal 1 5", 9);
        fault("repeal 1 @5", 9);
        fault("insert 1;inserted 2", 9);
        fault("insert 1 insert 2", 9);
    }

    private static void faultsOfDigitsAndLetters() {
        fault("insert 0", 7);
        fault("insert 00", 7);
        fault("insert 000", 7);
        fault("insert 0001", 7);
        fault("insert 0010", 10);
        fault("insert 1000", 10);
        fault("insert 0A", 7);
        fault("insert 1 @0", 10);
        fault("insert 1 @000 1", 10);
        fault("insert 1 @1000", 13);
        fault("insert 1 1000", 12);
        fault("insert 1 0000", 12);
        fault("renumber 1 to 0", 14);
        fault("renumber 0 to 0", 9);
        fault("in 0 for 1 put 1", 3);
        fault("insert 1ABC", 10);
        fault("insert 1 A", 9);
        fault("insert 1A B", 10);
        fault("insert 1a", 8);
        fault("insert 1 5A", 10);
        fault("in 1 for 2A put 3", 10);
        fault("in 1 for 2 put 3B", 16);
        fault("in 1 for @2 put 3", 9);
        fault("insert @1", 7);
        fault("insert 1 @ 2", 10);
        fault("insert 1 @A", 10);
        fault("insert 1 @@1", 10);
        fault("insert\t1", 6);
        fault("insert 1\n", 8);
        fault("insert 1,2", 8);
    }

    private static void faultsOfEndsAndCounts() {
        fault("", 0);
        fault("   ", 3);
        fault("in", 2);
        fault("insert", 6);
        fault("insert ", 7);
        fault("insert 1;", 9);
        fault("insert 1; ", 10);
        fault("insert 1;;", 9);
        fault(";", 0);
        fault("insert 1 @", 10);
        fault("renumber 1", 10);
        fault("renumber 1 to", 13);
        fault("in 1", 4);
        fault("in 1 for", 8);
        fault("in 1 for 2", 10);
        fault("in 1 for 2 put ", 15);
        fault("insert 1 1 2 3 4 5 6 7", 21);
        fault("insert 1 1 2 3 4 5 6 7000", 21);
        fault("insert 1 1 2 3 4 5 6 @0", 21);
        fault("insert 1 1 2 3 4 5 6@1", 20);
        fault("replace 1 1 2 3 4 5 6 7 saving", 22);
    }

    private static void enactAnswers() {
        StatuteBook book = new StatuteBook();
        CHECK.due("enact -1", book.enact(-1), -2);
        CHECK.due("enact 10000", book.enact(10000), -2);
        CHECK.due("enact of an empty text", book.enact(0), -2000);
        CHECK.due("first", Check.enact(book, "insert 1", 9999), 0);
        CHECK.due("second", Check.enact(book, "insert 2", 0), 1);
        CHECK.due("states", book.count(3), 2);
        Check.type(book, "insert 3");
        CHECK.due("wrong day", book.enact(10000), -2);
        CHECK.due("text stays", book.count(4), 8);
        CHECK.due("third", book.enact(5), 2);
        CHECK.due("text is empty", book.count(4), 0);
    }

    private static void limitOfAmendments() {
        StatuteBook book = new StatuteBook();
        for (int i = 0; i < 20; i++) {
            CHECK.due("amendment " + i, Check.enact(book, "repeal1", i), i);
        }
        CHECK.due("amendment 20", Check.enact(book, "repeal1", 0), -4);
        CHECK.due("text stays", book.count(4), 7);
        CHECK.due("history stays", book.count(3), 10);
        book.type(';');
        CHECK.due("a fault comes before FULL", book.enact(0), -2008);
        CHECK.due("BAD comes before both", book.enact(-1), -2);
        book.clear();
        CHECK.due("withdraw", book.withdraw(), 19);
        CHECK.due("again amendment 19", Check.enact(book, "repeal1", 0), 19);
    }

    private static void limitOfIdentities() {
        StatuteBook book = new StatuteBook();
        for (int i = 0; i < 13; i++) {
            CHECK.due("amendment " + i, Check.enact(book, "insert1;insert2;insert3", 0), i);
        }
        CHECK.due("41 identities", Check.enact(book, "insert1;insert2", 0), -4);
        CHECK.due("text stays", book.clear(), 15);
        CHECK.due("40 identities", Check.enact(book, "insert1;repeal1", 0), 13);
        CHECK.due("identity 40", Check.enact(book, "insert1", 0), -4);
        book.clear();
        CHECK.due("without an insert", Check.enact(book, "repeal1", 0), 14);
        CHECK.due("identities", book.count(2), 40);
        CHECK.due("last identity", book.operation(13, 0, 8), 39);
    }
}
