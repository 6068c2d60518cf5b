/** Counts the answers that are not the ones that are due, and tells them. */
final class Check {
    private final String name;
    private int asked;
    private int wrong;

    Check(String name) {
        this.name = name;
    }

    void due(String call, long got, long want) {
        asked++;
        if (got != want) {
            wrong++;
            System.out.println(name + ": " + call + " answered " + got + ", due is " + want);
        }
    }

    void dueTrue(String claim, boolean holds) {
        due(claim, holds ? 1 : 0, 1);
    }

    /** Ends the test, with exit code 1 if an answer was wrong. */
    void end() {
        System.out.println(name + ": " + asked + " answers, " + wrong + " wrong");
        if (wrong != 0 || asked == 0) {
            System.exit(1);
        }
    }

    /** Types a text, whatever the answers are. */
    static void type(StatuteBook book, String text) {
        for (int i = 0; i < text.length(); i++) {
            book.type(text.charAt(i));
        }
    }

    static int enact(StatuteBook book, String text, int day) {
        type(book, text);
        return book.enact(day);
    }

    /** A new book with these amendments, each told as "day text". */
    static StatuteBook bookOf(String... amendments) {
        StatuteBook book = new StatuteBook();
        for (String each : amendments) {
            int blank = each.indexOf(' ');
            int answer = enact(book, each.substring(blank + 1), Integer.parseInt(each.substring(0, blank)));
            if (answer < 0) {
                throw new IllegalStateException("not enacted: " + each + ": " + answer);
            }
        }
        return book;
    }

    /** The code of a number such as 12AB. */
    static int code(String number) {
        int digits = 0;
        while (digits < number.length() && Character.isDigit(number.charAt(digits))) {
            digits++;
        }
        int code = 729 * Integer.parseInt(number.substring(0, digits));
        if (digits < number.length()) {
            code += 27 * (number.charAt(digits) - 'A' + 1);
        }
        if (digits + 1 < number.length()) {
            code += number.charAt(digits + 1) - 'A' + 1;
        }
        return code;
    }

    /** The law of a day as print() tells it, "/" for each line feed. */
    static String law(StatuteBook book, int day, int caseDay) {
        book.print(day, caseDay);
        StringBuilder text = new StringBuilder();
        for (int i = 0; book.printed(i) != StatuteBook.NONE; i++) {
            text.append(book.printed(i) == 10 ? '/' : (char) book.printed(i));
        }
        return text.toString();
    }

    void dueLaw(StatuteBook book, int day, int caseDay, String want) {
        dueText("the law of " + day + ", " + caseDay, law(book, day, caseDay), want);
    }

    void dueLaw(Book book, int day, int caseDay, String want) {
        dueText("the law of " + day + ", " + caseDay, book.law(day, caseDay), want);
    }

    private void dueText(String call, String got, String want) {
        asked++;
        if (!got.equals(want)) {
            wrong++;
            System.out.println(name + ": " + call + " is " + got + ", due is " + want);
        }
    }
}
