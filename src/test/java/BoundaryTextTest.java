/** The boundary cases of texts: what 'Texts' says of the grammar and the fault, and promises 2 to 4. */
public final class BoundaryTextTest {
    private static final Check CHECK = new Check("BoundaryTextTest");
    private static final int VALID = -1;

    /** Each place of a number, as what stands before it and behind it. */
    private static final String[][] NUMBER_PLACES = {{"insert ", ""}, {"replace ", ""}, {"repeal ", ""},
        {"renumber ", " to 1"}, {"renumber 1 to ", ""}, {"in ", " for 1 put 1"}, {"insert 1 @", ""},
        {"replace 1 2 @", " saving"}, {"insert 1;repeal ", ""}};

    /** Each place of a plain word, in the same way. */
    private static final String[][] PLAIN_PLACES = {{"insert 1 ", ""}, {"replace 1 ", " saving"}, {"in 1 for ", " put 1"},
        {"in 1 for 1 put ", ""}};

    public static void main(String[] args) {
        bytesOfType();
        lengthOfText();
        lengthOfClear();
        textsOfFullLength();
        everyIndexOfAFault();
        emptyOperations();
        operationsOfOneText();
        valueOfNumbers();
        lengthOfDigits();
        lettersOfNumbers();
        plainWords();
        neighboursOfDigitsAndLetters();
        directly();
        blanksAnywhere();
        onlyByte32IsABlank();
        neededBlanks();
        longestSequences();
        wordsThatCannotStand();
        missingParts();
        endsOfInsert();
        endsOfReplace();
        endsOfRepeal();
        endsOfRenumber();
        endsOfChange();
        numberOfWords();
        seventhWord();
        savingOnce();
        theFirstFaultCounts();
        textAfterEnact();
        daysOfEnact();
        orderOfErrors();
        CHECK.end();
    }

    /** What enact() answers to a text whose fault is this, with the text that stays or goes. */
    private static void fault(String text, int due) {
        Book book = new Book();
        String call = "enact \"" + text + "\"";
        CHECK.due(call, book.enact(text, 0), due == VALID ? 0 : -2000 - due);
        CHECK.due("bytes after " + call, book.count(4), due == VALID ? 0 : text.length());
        CHECK.due("amendments after " + call, book.count(0), due == VALID ? 1 : 0);
        CHECK.due("states after " + call, book.count(3), due == VALID ? 1 : 0);
    }

    private static void valid(String text) {
        fault(text, VALID);
    }

    // ---- promises 2 and 3

    /** "letter: 0 to 127" */
    private static void bytesOfType() {
        int[] wrong = {-1, 128, 129, 256, 32 + 256, -128, Integer.MIN_VALUE, Integer.MAX_VALUE};
        Book book = new Book();
        for (int letter : wrong) {
            CHECK.due("type " + letter, book.type(letter), -2);
            CHECK.due("bytes then", book.count(4), 0);
        }
        for (int letter = 0; letter <= 119; letter++) {
            CHECK.due("type " + letter, book.type(letter), letter + 1);
        }
        CHECK.due("clear", book.clear(), 120);
        for (int letter = 120; letter <= 127; letter++) {
            CHECK.due("type " + letter, book.type(letter), letter - 119);
        }
    }

    /** "FULL if it has 120 bytes", and BAD before it; what is refused leaves the text. */
    private static void lengthOfText() {
        Book book = new Book();
        String text = "insert 1" + " ".repeat(111);
        book.say(text);
        CHECK.due("the last byte", book.type(' '), 120);
        CHECK.due("one more", book.type(' '), -4);
        CHECK.due("one more, of 0", book.type(0), -4);
        CHECK.due("one more, of 127", book.type(127), -4);
        CHECK.due("BAD comes before FULL", book.type(-1), -2);
        CHECK.due("BAD comes before FULL", book.type(128), -2);
        CHECK.due("bytes", book.count(4), 120);
        CHECK.due("the text is as it was", book.enact(0), 0);
        CHECK.due("then there is room", book.type(' '), 1);
    }

    /** "Returns the length that it had": 0 for an empty text, 1, 120 for a full one. */
    private static void lengthOfClear() {
        Book book = new Book();
        CHECK.due("clear of nothing", book.clear(), 0);
        book.type('x');
        CHECK.due("clear of one", book.clear(), 1);
        CHECK.due("clear again", book.clear(), 0);
        book.say("x".repeat(120));
        CHECK.due("clear of a full text", book.clear(), 120);
        CHECK.due("bytes then", book.count(4), 0);
        CHECK.due("nothing is left of it", book.enact(0), -2000);
        CHECK.due("the first byte again", book.type('x'), 1);
    }

    // ---- the length of a text, and how many operations it has

    /** "There is a text of at most 120 bytes" */
    private static void textsOfFullLength() {
        valid("insert 1" + " ".repeat(112));
        valid(" ".repeat(112) + "insert 1");
        valid("insert 1 " + " ".repeat(110) + "2");
        fault("insert 1 " + " ".repeat(110) + "!", 119);
        fault("insert 1" + " ".repeat(111) + ";", 120);
        fault("insert 1;" + " ".repeat(111), 120);
        fault(" ".repeat(120), 120);
        fault(" ".repeat(119) + "i", 119);
        fault(" ".repeat(118) + "in", 120);
        fault(" ".repeat(114) + "insert", 120);
        fault(" ".repeat(113) + "insert0", 119);
        fault(" ".repeat(111) + "insert 1@", 120);
        fault(" ".repeat(112) + "repeal1s", 119);
        valid(" ".repeat(107) + "repeal1saving");
    }

    /** "the index, from 0, of the first byte that cannot stand", at each index that there is */
    private static void everyIndexOfAFault() {
        for (int i = 0; i < 120; i++) {
            fault(" ".repeat(i) + "!", i);
            fault(" ".repeat(i), i);
        }
        fault("!" + " ".repeat(119), 0);
    }

    /** "amendment = operation { ";" operation }": no operation may be missing. */
    private static void emptyOperations() {
        fault("", 0);
        fault(" ", 1);
        fault(";", 0);
        fault(" ;", 1);
        fault(";insert 1", 0);
        fault("insert 1;", 9);
        fault("insert 1 ; ", 11);
        fault("insert 1;;insert 2", 9);
        fault("insert 1; ;insert 2", 10);
        fault("insert 1 insert 2", 9);
        valid("insert 1;insert 2");
        valid(" insert 1 ; insert 2 ");
    }

    /** "Braces mean repetition, zero times or more": as many operations as 120 bytes can hold. */
    private static void operationsOfOneText() {
        for (int more = 0; more <= 14; more++) {
            Book book = new Book();
            CHECK.due("enact of " + (more + 1), book.enact("repeal1" + ";repeal1".repeat(more), 0), 0);
            CHECK.due("operations", book.amendment(0, 2), more + 1);
            CHECK.due("operations in all", book.count(1), more + 1);
            CHECK.due("the last one", book.operation(0, more, 0), 2);
            CHECK.due("none behind it", book.operation(0, more + 1, 0), -2);
        }
        fault("repeal1" + ";repeal1".repeat(14) + ";", 120);
    }

    // ---- digits and letters

    /** "The number of a clause is an integer from 1 to 999"; "the value of the digits of a number must not be 0" */
    private static void valueOfNumbers() {
        String[] good = {"1", "9", "10", "99", "100", "999", "01", "001", "010", "090", "099", "1A", "001ZZ", "999ZZ"};
        String[] zero = {"0", "00", "000", "0A", "00AB", "000Z", "0000", "00000", "0001", "0009", "000999", "0000A"};
        for (String[] place : NUMBER_PLACES) {
            for (String number : good) {
                valid(place[0] + number + place[1]);
            }
            for (String number : zero) {
                fault(place[0] + number + place[1], place[0].length());
                fault(place[0] + number, place[0].length());
            }
        }
        Book book = Book.of("0 insert 001 001 @01;insert 999ZZ;insert 1A;insert 1AB");
        int[] codes = {729, 728999, 756, 758};
        for (int i = 0; i < codes.length; i++) {
            CHECK.due("code " + i, book.operation(0, i, 1), codes[i]);
        }
        CHECK.due("a plain word with zeros", book.word(0, 0, 0), 1);
        CHECK.due("a reference with zeros", book.word(0, 0, 1), 1729);
    }

    /** "Digits are a sequence of digits, as long as possible, that is at most 3 digits long" */
    private static void lengthOfDigits() {
        String[] tooLong = {"1000", "1234", "9999", "0010", "0100", "0011", "00100", "12345", "1000A"};
        for (String[] place : NUMBER_PLACES) {
            for (String number : tooLong) {
                fault(place[0] + number + place[1], place[0].length() + 3);
                fault(place[0] + number, place[0].length() + 3);
            }
        }
        String[] words = {"1000", "0000", "0001", "0010", "9999", "00000", "12345"};
        for (String[] place : PLAIN_PLACES) {
            for (String word : words) {
                fault(place[0] + word + place[1], place[0].length() + 3);
                fault(place[0] + word, place[0].length() + 3);
            }
        }
    }

    /** "number = digits [ letter [ letter ] ]": none, one, two, and no third one. */
    private static void lettersOfNumbers() {
        String[] good = {"A", "Z", "AA", "AZ", "ZA", "ZZ"};
        for (String[] place : NUMBER_PLACES) {
            for (String letters : good) {
                valid(place[0] + "12" + letters + place[1]);
                fault(place[0] + "12" + letters + "!", place[0].length() + 2 + letters.length());
            }
            fault(place[0] + "12AAA" + place[1], place[0].length() + 4);
            fault(place[0] + "12ZZZ", place[0].length() + 4);
            fault(place[0] + "A" + place[1], place[0].length());
            fault(place[0] + "A12" + place[1], place[0].length());
        }
    }

    /** "A word is a plain word, an integer from 0 to 999": no value is refused, but letters are. */
    private static void plainWords() {
        String[] good = {"0", "00", "000", "1", "001", "010", "999"};
        for (String[] place : PLAIN_PLACES) {
            for (String word : good) {
                valid(place[0] + word + place[1]);
            }
            fault(place[0] + "1A" + place[1], place[0].length() + 1);
            fault(place[0] + "000A" + place[1], place[0].length() + 3);
            fault(place[0] + "-1" + place[1], place[0].length());
        }
        Book book = Book.of("0 insert 1 0 999 000;in 1 for 000 put 999");
        int[] words = {0, 999, 0};
        for (int k = 0; k < words.length; k++) {
            CHECK.due("word " + k, book.word(0, 0, k), words[k]);
        }
        CHECK.due("old word", book.operation(0, 1, 2), 0);
        CHECK.due("new word", book.operation(0, 1, 3), 999);
    }

    /** "A letter is a capital letter from A to Z"; the bytes beside 0, 9, A, Z, a and z are none of these. */
    private static void neighboursOfDigitsAndLetters() {
        fault("insert /", 7);
        fault("insert :", 7);
        fault("insert 1/", 8);
        fault("insert 1:", 8);
        fault("insert 1 /", 9);
        fault("insert 1 :", 9);
        fault("insert 1[", 8);
        fault("insert 1A[", 9);
        fault("insert 1@", 9);
        fault("insert 1A@", 10);
        fault("insert 1@[", 9);
        fault("insert 1`", 8);
        fault("insert 1{", 8);
        fault("repeal`1", 6);
        fault("repeal{1", 6);
        fault("repeala1", 0);
        fault("repealz1", 0);
        fault("`repeal1", 0);
        fault("{repeal1", 0);
        fault("repeal 1 saving`", 15);
        fault("repeal 1 saving{", 15);
        fault("repeal 1 savinga", 9);
        fault("repeal 1 savingz", 9);
        fault("repeal 1 `", 9);
        fault("repeal 1 {", 9);
        fault("repeal 1A:", 9);
        fault("repeal 1<", 8);
        fault("repeal 1?", 8);
        valid("insert 1A 0 9");
        valid("insert 9Z");
    }

    /** "Letters of a number follow its digits directly, and the number after @ follows it directly" */
    private static void directly() {
        for (String[] place : NUMBER_PLACES) {
            fault(place[0] + "1 A" + place[1], place[0].length() + 2);
            fault(place[0] + "1A B" + place[1], place[0].length() + 3);
        }
        fault("insert 1 @ 1", 10);
        fault("insert 1 @  1", 10);
        fault("insert 1 @ ", 10);
        fault("insert 1 @;insert 2", 10);
        fault("insert 1 @@1", 10);
        fault("insert 1 @saving", 10);
        fault("insert 1 @", 10);
        fault("insert @1", 7);
        fault("renumber 1 to @1", 14);
        fault("in 1 for @1 put 1", 9);
        fault("in 1 for 1 put @1", 15);
        fault("repeal @1", 7);
    }

    // ---- blanks

    /** "blanks may stand before and after each word of the grammar, each number, plain and ";", also before "@"" */
    private static void blanksAnywhere() {
        String[][] operations = {{"insert", "1A", "5", "@2B", "6"}, {"replace", "1", "5", "@2", "saving"},
            {"repeal", "1AB", "saving"}, {"renumber", "1", "to", "2A"}, {"in", "1", "for", "2", "put", "3", "saving"}};
        for (String[] one : operations) {
            for (String[] other : operations) {
                for (String blanks : new String[] {" ", "  ", "   "}) {
                    valid(blanks + String.join(blanks, one) + blanks + ";" + blanks + String.join(blanks, other) + blanks);
                }
            }
        }
    }

    /** "blanks (byte 32)": no other byte is one. */
    private static void onlyByte32IsABlank() {
        for (int letter = 0; letter <= 127; letter++) {
            boolean isSmall = letter >= 'a' && letter <= 'z';
            String text = (char) letter + "insert 1";
            fault(text, letter == 32 ? VALID : 0);
            boolean isWord = letter >= '0' && letter <= '9';
            fault("insert 1 " + (char) letter, letter == 32 || isWord ? VALID : letter == ';' || letter == '@' ? 10 : 9);
            boolean goesOn = letter == 32 || isWord && letter != '0';
            fault("repeal" + (char) letter + "1", goesOn ? VALID : isSmall ? 0 : letter == '0' ? VALID : 6);
        }
    }

    /** "and are needed only between two sequences of digits without a letter between them" */
    private static void neededBlanks() {
        String[] without = {"insert1", "insert1A5", "insert1AB5@2A7@3@4B8", "insert1@2", "replace1saving", "replace1A5saving",
            "replace1@2Asaving;repeal1Asaving;repeal1", "renumber1to2;renumber1Ato2A;insert2", "in1for2put3",
            "in1ABfor2put3saving;insert1"};
        for (String text : without) {
            valid(text);
        }
        Book book = Book.of("0 insert1A5@2B6 7@3 8;insert12 3;insert1 23;insert123");
        int[] words = {5, 1000 + 1512, 6, 7, 1000 + 2187, 8};
        CHECK.due("words", book.operation(0, 0, 5), words.length);
        for (int k = 0; k < words.length; k++) {
            CHECK.due("word " + k, book.word(0, 0, k), words[k]);
        }
        CHECK.due("words of 12 3", book.operation(0, 1, 5), 1);
        CHECK.due("number of 12 3", book.operation(0, 1, 1), 12 * 729);
        CHECK.due("number of 1 23", book.operation(0, 2, 1), 729);
        CHECK.due("word of 1 23", book.word(0, 2, 0), 23);
        CHECK.due("words of 123", book.operation(0, 3, 5), 0);
        CHECK.due("number of 123", book.operation(0, 3, 1), 123 * 729);
    }

    // ---- small letters

    /** "Words of the grammar ... are read as the longest possible sequences of small letters" */
    private static void longestSequences() {
        fault("insertinsert1", 0);
        fault("insertto 1", 0);
        fault("inin 1 for 2 put 3", 0);
        fault("repealsaving", 0);
        fault("repeal1savingsaving", 7);
        fault("repeal1savinginsert2", 7);
        fault("replace1 5savings", 10);
        fault("renumber1toto2", 9);
        fault("in1forfor2put3", 3);
        fault("in1for2putput3", 7);
        fault("in1for2put3savingx", 11);
        fault("insert 1;insertinsert 2", 9);
        valid("replace1 5saving;in1for2put3saving");
    }

    /** "a sequence of small letters that is not one of the words of the grammar that can stand there": its first byte. */
    private static void wordsThatCannotStand() {
        String[] all = {"insert", "replace", "repeal", "renumber", "in", "to", "for", "put", "saving", "x", "abc", "zzz"};
        String[][] places = {{"", "insert", "replace", "repeal", "renumber", "in"}, {"insert "}, {"insert 1 "},
            {"insert 1 2 "}, {"insert 1 @2 "}, {"replace 1 ", "saving"}, {"replace 1 2 ", "saving"}, {"repeal 1 ", "saving"},
            {"renumber 1 ", "to"}, {"renumber 1 to "}, {"renumber 1 to 2 "}, {"in "}, {"in 1 ", "for"}, {"in 1 for "},
            {"in 1 for 2 ", "put"}, {"in 1 for 2 put "}, {"in 1 for 2 put 3 ", "saving"}, {"repeal 1 saving "},
            {"insert 1;", "insert", "replace", "repeal", "renumber", "in"}, {"insert 1 @"}};
        for (String[] place : places) {
            for (String word : all) {
                boolean stands = false;
                for (int i = 1; i < place.length; i++) {
                    stands |= place[i].equals(word);
                }
                int end = word.equals("saving") ? VALID : place[0].length() + word.length();
                fault(place[0] + word, stands ? end : place[0].length());
                fault(place[0] + word + "!", stands ? place[0].length() + word.length() : place[0].length());
            }
            for (int i = 1; i < place.length; i++) {
                cutWord(place[0], place[i]);
            }
        }
    }

    /** "(also if the text ends within it)"; what a word of the grammar is cut to, or that it has a letter more. */
    private static void cutWord(String before, String word) {
        for (int length = 1; length < word.length(); length++) {
            boolean isOther = word.substring(0, length).equals("in");
            if (!isOther) {
                fault(before + word.substring(0, length), before.length());
                fault(before + word.substring(0, length) + " 1", before.length());
            }
        }
        fault(before + word + "a", before.length());
        fault(before + word + "z 1", before.length());
        fault(before + Character.toUpperCase(word.charAt(0)) + word.substring(1), before.length());
        fault(before + word.substring(0, word.length() - 1) + "A", before.length());
    }

    /** No part that stands without brackets may be missing, also if what follows it is right. */
    private static void missingParts() {
        fault("1", 0);
        fault("1A 5", 0);
        fault("@1", 0);
        fault("insert 1;1", 9);
        fault("insert;insert 1", 6);
        fault("insert @1", 7);
        fault("replace saving", 8);
        fault("repeal;repeal 1", 6);
        fault("repeal saving", 7);
        fault("renumber to 2", 9);
        fault("renumber 1 2", 11);
        fault("renumber 1A2", 11);
        fault("renumber 1;repeal 1", 10);
        fault("renumber 1 to;repeal 1", 13);
        fault("in for 2 put 3", 3);
        fault("in 1 2 put 3", 5);
        fault("in 1A2put 3", 5);
        fault("in 1 for put 3", 9);
        fault("in 1 for 2 3", 11);
        fault("in 1 for 2;repeal 1", 10);
        fault("in 1 for 2 put;repeal 1", 14);
        fault("in 1 for 2 put saving", 15);
    }

    // ---- "the length of the text if the text ends too early": each beginning of a text

    private static void beginnings(String text, int... due) {
        CHECK.due("beginnings of " + text, due.length, text.length() + 1);
        for (int length = 0; length <= text.length(); length++) {
            fault(text.substring(0, length), due[length]);
        }
    }

    private static void endsOfInsert() {
        beginnings("insert 12 @3AB 45 ; repeal 1", 0, 0, 2, 0, 0, 0, 6, 7, VALID, VALID, VALID, 11, VALID, VALID, VALID,
                VALID, VALID, VALID, VALID, 19, 20, 20, 20, 20, 20, 20, 26, 27, VALID);
    }

    private static void endsOfReplace() {
        beginnings("replace 1 2 @3 saving ", 0, 0, 0, 0, 0, 0, 0, 7, 8, VALID, VALID, VALID, VALID, 13, VALID, VALID,
                15, 15, 15, 15, 15, VALID, VALID);
    }

    private static void endsOfRepeal() {
        beginnings("repeal 1A saving;", 0, 0, 0, 0, 0, 0, 6, 7, VALID, VALID, VALID, 10, 10, 10, 10, 10, VALID, 17);
    }

    private static void endsOfRenumber() {
        beginnings("renumber 1 to 23Z ", 0, 0, 0, 0, 0, 0, 0, 0, 8, 9, 10, 11, 11, 13, 14, VALID, VALID, VALID, VALID);
    }

    private static void endsOfChange() {
        beginnings("in 1A for 23 put 45 saving", 0, 0, 2, 3, 4, 5, 6, 6, 6, 9, 10, 11, 12, 13, 13, 13, 16, 17,
                VALID, VALID, VALID, 20, 20, 20, 20, 20, VALID);
    }

    // ---- words and savings

    /** "a number and up to 6 words": none, one, six. */
    private static void numberOfWords() {
        for (String kind : new String[] {"insert 1", "replace 1"}) {
            for (String word : new String[] {" 7", " @9", "@9"}) {
                for (int length = 0; length <= 6; length++) {
                    Book book = Book.of("0 " + kind + word.repeat(length));
                    CHECK.due("words", book.operation(0, 0, 5), length);
                    for (int k = 0; k < length; k++) {
                        CHECK.due("word " + k, book.word(0, 0, k), word.equals(" 7") ? 7 : 1000 + 9 * 729);
                    }
                    CHECK.due("no word behind them", book.word(0, 0, length), -2);
                }
            }
        }
        Book book = Book.of("0 replace 1 1 2 3 4 5 6 saving;insert 2 @1@2@3@4@5@6;replace 3 7 8 9");
        CHECK.due("the saving behind six words", book.operation(0, 0, 4), 1);
        CHECK.due("the words of the next operation", book.operation(0, 2, 5), 3);
    }

    /** "for a 7th word of an operation ... it is that of its first byte", whatever it is and whatever is wrong with it */
    private static void seventhWord() {
        String[] words = {"7", "0", "777", "7777", "0000", "@7", "@7A", "@0", "@000", "@7777", "@", "@ 7", "@@", "@A", "@!"};
        for (String kind : new String[] {"insert 1 ", "replace 1A "}) {
            String six = kind + "1 2 @3 @4A 555 @666ZZ";
            valid(six);
            for (String word : words) {
                fault(six + " " + word, six.length() + 1);
                fault(six + word, six.length());
                fault(six + " " + word + " 8 9", six.length() + 1);
                fault(six + "  " + word + ";insert 2", six.length() + 2);
            }
            fault(six + " 7 saving", six.length() + 1);
            fault(six + " x", six.length() + 1);
            fault(six + " 7;insert 0", six.length() + 1);
            fault(six + ";" + kind + "1 2 3 4 5 6 7", six.length() + 1 + kind.length() + 12);
        }
        fault("insert 1 1 2 3 4 5 1000", 22);
        fault("insert 1 1 2 3 4 5 @0 7", 20);
        fault("insert 1 1 2 3 4 5 @1000", 23);
        valid("replace 1 1 2 3 4 5 6 saving");
        valid("insert 1 1 2 3 4 5 6;insert 2 1 2 3 4 5 6");
    }

    /** "brackets at most once": [ "saving" ] for replace, repeal and in, and not for the others */
    private static void savingOnce() {
        String[] may = {"replace 1", "replace 1 5", "replace 1 @5", "repeal 1", "in 1 for 2 put 3"};
        for (String text : may) {
            valid(text);
            valid(text + " saving");
            fault(text + " saving saving", text.length() + 8);
            fault(text + " saving 5", text.length() + 8);
            fault(text + " saving @5", text.length() + 8);
            fault(text + " saving A", text.length() + 8);
            Book book = Book.of("0 " + text + ";" + text + " saving;" + text);
            int[] saving = {0, 1, 0};
            for (int i = 0; i < saving.length; i++) {
                CHECK.due("saving " + i + " of " + text, book.operation(0, i, 4), saving[i]);
            }
        }
        fault("insert 1 saving", 9);
        fault("insert 1 5 saving", 11);
        fault("renumber 1 to 2 saving", 16);
        fault("saving", 0);
        fault("insert 1;saving", 9);
    }

    /** "the first byte that cannot stand at its place": what is behind it does not matter. */
    private static void theFirstFaultCounts() {
        fault("insert 0;insert 0;xyz", 7);
        fault("insert 1000 0000 saving", 10);
        fault("insert 1;ins 0 @", 9);
        fault("repeal 1 2 3 4 5 6 7 8", 9);
        fault("in 0 for 1000 put x", 3);
        fault("in 1 for 1000 put x", 12);
        fault("renumber 0 to 0 saving", 9);
        fault("renumber 1 to 0 saving", 14);
        fault("renumber 1ABC to 0", 12);
        fault("insert 1 @0 @0", 10);
        fault("insert 1!;insert 0", 8);
    }

    // ---- promise 4

    /** "(the text stays)" with a fault, so that it can go on; "and empties the text" without one */
    private static void textAfterEnact() {
        Book book = new Book();
        CHECK.due("ends too early", book.enact("insert", 0), -2006);
        CHECK.due("again", book.enact(0), -2006);
        CHECK.due("the text goes on", book.enact(" 1 5", 0), 0);
        CHECK.due("it is empty then", book.enact(0), -2000);
        CHECK.due("bytes", book.clear(), 0);
        CHECK.due("the next text", book.enact("repeal 1", 0), 1);
        CHECK.due("it has one operation", book.amendment(1, 2), 1);
        CHECK.due("a fault after words", book.enact("insert 1 1 2 3 !", 0), -2015);
        book.clear();
        CHECK.due("what was read before the fault is gone", book.enact("insert 2", 0), 2);
        CHECK.due("operations", book.amendment(2, 2), 1);
        CHECK.due("words", book.operation(2, 0, 5), 0);
    }

    /** "day: its day, 0 to 9999" */
    private static void daysOfEnact() {
        int[] wrong = {-1, 10000, Integer.MIN_VALUE, Integer.MAX_VALUE, -10000};
        Book book = new Book().say("insert 1");
        for (int day : wrong) {
            CHECK.due("enact " + day, book.enact(day), -2);
            CHECK.due("bytes", book.count(4), 8);
        }
        CHECK.due("day 0", book.enact(0), 0);
        CHECK.due("day 9999", book.enact("insert 2", 9999), 1);
        CHECK.due("its day", book.amendment(0, 0), 0);
        CHECK.due("its day", book.amendment(1, 0), 9999);
    }

    /** "BAD; -2000 - p ...; FULL": the one that comes first */
    private static void orderOfErrors() {
        Book book = new Book();
        for (int i = 0; i < 20; i++) {
            book.enact("repeal1", i);
        }
        CHECK.due("FULL", book.enact("repeal1", 0), -4);
        CHECK.due("BAD before FULL", book.enact(-1), -2);
        CHECK.due("BAD before FULL", book.enact(10000), -2);
        book.type('x');
        CHECK.due("a fault before FULL", book.enact(0), -2007);
        CHECK.due("BAD before a fault", book.enact(-1), -2);
        CHECK.due("BAD before a fault", book.enact(10000), -2);
        book.clear();
        CHECK.due("the fault of an empty text before FULL", book.enact(0), -2000);
    }
}
