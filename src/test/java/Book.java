/** A StatuteBook that counts its calls, since the document promises nothing behind the 512th. */
final class Book {
    static final int LAST_CALL = 512;

    private final StatuteBook book = new StatuteBook();
    private int calls;

    private StatuteBook next() {
        calls++;
        if (calls > LAST_CALL) {
            throw new IllegalStateException("a call behind the last one that the document promises");
        }
        return book;
    }

    int calls() {
        return calls;
    }

    int type(int letter) {
        return next().type(letter);
    }

    int clear() {
        return next().clear();
    }

    int enact(int day) {
        return next().enact(day);
    }

    int revoke(int amendment, boolean on) {
        return next().revoke(amendment, on);
    }

    int commence(int amendment, int day) {
        return next().commence(amendment, day);
    }

    int withdraw() {
        return next().withdraw();
    }

    int undo() {
        return next().undo();
    }

    int amendment(int amendment, int what) {
        return next().amendment(amendment, what);
    }

    int operation(int amendment, int operation, int what) {
        return next().operation(amendment, operation, what);
    }

    int word(int amendment, int operation, int k) {
        return next().word(amendment, operation, k);
    }

    int clauses(int day, int caseDay) {
        return next().clauses(day, caseDay);
    }

    int clause(int day, int caseDay, int i, int what) {
        return next().clause(day, caseDay, i, what);
    }

    int textWord(int day, int caseDay, int i, int k) {
        return next().textWord(day, caseDay, i, k);
    }

    int find(int day, int caseDay, int code) {
        return next().find(day, caseDay, code);
    }

    int print(int day, int caseDay) {
        return next().print(day, caseDay);
    }

    int printed(int i) {
        return next().printed(i);
    }

    int history(int identity, int k, int what) {
        return next().history(identity, k, what);
    }

    int difference(int first, int second, int what) {
        return next().difference(first, second, what);
    }

    int containing(int day, int word) {
        return next().containing(day, word);
    }

    int references(int day, int identity) {
        return next().references(day, identity);
    }

    int reach(int day, int identity, int what) {
        return next().reach(day, identity, what);
    }

    int tally(int what) {
        return next().tally(what);
    }

    int conflict(int k, int what) {
        return next().conflict(k, what);
    }

    int effect(int amendment, int day) {
        return next().effect(amendment, day);
    }

    int fewestRevocations(int day, int word) {
        return next().fewestRevocations(day, word);
    }

    int between(int day, int code) {
        return next().between(day, code);
    }

    int tidy(int day) {
        return next().tidy(day);
    }

    int save(int k) {
        return next().save(k);
    }

    int restore(int k) {
        return next().restore(k);
    }

    int count(int what) {
        return next().count(what);
    }

    long digest() {
        return next().digest();
    }

    // ---- several calls at once

    /** Types a text, whatever the answers are. */
    Book say(String text) {
        for (int i = 0; i < text.length(); i++) {
            type(text.charAt(i));
        }
        return this;
    }

    int enact(String text, int day) {
        return say(text).enact(day);
    }

    /** A new book with these amendments, each told as "day text". */
    static Book of(String... amendments) {
        Book book = new Book();
        for (String each : amendments) {
            int blank = each.indexOf(' ');
            int answer = book.enact(each.substring(blank + 1), Integer.parseInt(each.substring(0, blank)));
            if (answer < 0) {
                throw new IllegalStateException("not enacted: " + each + ": " + answer);
            }
        }
        return book;
    }

    /** The law of a day as print() tells it, "/" for each line feed. */
    String law(int day, int caseDay) {
        int length = print(day, caseDay);
        StringBuilder text = new StringBuilder();
        for (int i = 0; i < length; i++) {
            int letter = printed(i);
            text.append(letter == 10 ? '/' : (char) letter);
        }
        return text.toString();
    }
}
