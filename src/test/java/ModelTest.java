import java.util.ArrayList;
import java.util.List;

/** All promises: runs of drawn calls, each answered alike by StatuteBook and by Model. */
public final class ModelTest {
    private static final int RUNS = 1500;
    private static final int CALLS = 150;
    private static final int FAULTY_TEXTS = 40000;
    /** Each run with a number that this divides starts near the limits. */
    private static final int FULL_EACH = 5;

    private static final String[] NUMBERS = {"1", "2", "3", "4", "5", "1", "2", "3", "1A", "2A", "1B", "1AA", "2Z",
        "2ZZ", "10", "998ZZ", "999", "999ZY", "999ZZ"};
    private static final int[] DAYS = {0, 1, 2, 3, 3, 4, 5, 5, 6, 7, 9998, 9999};
    private static final int[] WRONG = {-1, -2, 10000, 1000, 128, Integer.MAX_VALUE, Integer.MIN_VALUE};
    private static final int[] PLAINS = {0, 1, 2, 3, 5, 5, 10, 100, 999};

    private static final Check CHECK = new Check("ModelTest");

    /** A sequence of our own, so that each run of the test draws the same. */
    private long seed;
    private final StatuteBook book = new StatuteBook();
    private final Model model = new Model();
    private final List<String> calls = new ArrayList<>();

    private ModelTest(long seed) {
        this.seed = seed * 7919 + 17;
    }

    public static void main(String[] args) {
        int texts = 0;
        ModelTest drawer = new ModelTest(1);
        while (texts < FAULTY_TEXTS) {
            drawer.compareFault(drawer.brokenText());
            texts++;
        }
        for (int run = 0; run < RUNS; run++) {
            if (!new ModelTest(run).runs(run)) {
                break;
            }
        }
        CHECK.end();
    }

    private int draw(int bound) {
        seed = seed * 6364136223846793005L + 1442695040888963407L;
        return (int) ((seed >>> 33) % bound);
    }

    private int of(int[] values) {
        return values[draw(values.length)];
    }

    private boolean runs(int run) {
        if (run % FULL_EACH == 0 && !fill()) {
            System.out.println("run " + run + ": " + String.join(", ", calls));
            return false;
        }
        for (int i = 0; i < CALLS; i++) {
            if (!call()) {
                System.out.println("run " + run + ": " + String.join(", ", calls));
                return false;
            }
        }
        return agree("digest()", book.digest(), model.digest());
    }

    /** Starts near the limits: up to 40 clauses and 120 operations. */
    private boolean fill() {
        boolean alike = true;
        for (int a = 0; a < 4; a++) {
            StringBuilder text = new StringBuilder("insert" + (a + 1));
            for (int i = 1; i < 10; i++) {
                text.append(";insert").append(a + 1).append((char) ('A' + draw(i == 5 ? 1 : 26)));
                text.append(text.length() < 110 && draw(2) == 0 ? "@" + (a + 1) : "");
            }
            text.setLength(Math.min(text.length(), 120));
            int day = of(DAYS);
            for (int i = 0; i < text.length() && alike; i++) {
                alike = agree("type(" + (int) text.charAt(i) + ")", book.type(text.charAt(i)), model.type(text.charAt(i)));
            }
            alike = alike && agree("enact(" + day + ")", book.enact(day), model.enact(day));
            alike = alike && agree("clear()", book.clear(), model.clear());
        }
        for (int i = draw(5); i > 0 && alike; i--) {
            int day = of(DAYS);
            alike = agree("tidy(" + day + ")", book.tidy(day), model.tidy(day));
        }
        return alike;
    }

    private boolean agree(String call, long got, long want) {
        calls.add(call);
        CHECK.due(call, got, want);
        return got == want;
    }

    // ---- drawn arguments

    private int day() {
        return draw(40) == 0 ? of(WRONG) : of(DAYS);
    }

    private int caseDay() {
        return draw(2) == 0 ? -1 : day();
    }

    private int small(int bound) {
        return draw(25) == 0 ? of(WRONG) : draw(bound);
    }

    private int amendment() {
        return draw(25) == 0 ? of(WRONG) : draw(Math.max(1, model.count(0) + (draw(10) == 0 ? 1 : 0)));
    }

    private int identity() {
        return draw(15) == 0 ? of(WRONG) : draw(Math.max(1, model.count(2) + (draw(10) == 0 ? 1 : 0)));
    }

    private int plain() {
        return draw(40) == 0 ? of(WRONG) : of(PLAINS);
    }

    private int code() {
        return draw(10) == 0 ? draw(740000) - 700 : Check.code(NUMBERS[draw(NUMBERS.length)]);
    }

    // ---- drawn texts

    private String number() {
        return NUMBERS[draw(NUMBERS.length)];
    }

    private String blanks() {
        return draw(6) == 0 ? "" : draw(8) == 0 ? "  " : " ";
    }

    private String words() {
        StringBuilder words = new StringBuilder();
        int length = draw(4) == 0 ? draw(7) : draw(3);
        for (int i = 0; i < length; i++) {
            words.append(" ".repeat(1 + draw(8) / 7)).append(draw(2) == 0 ? "@" + number() : "" + of(PLAINS));
        }
        return words.toString();
    }

    private String saving() {
        return draw(3) == 0 ? blanks() + "saving" : "";
    }

    private String operation() {
        switch (draw(8)) {
            case 0:
                return "replace" + blanks() + number() + words() + saving();
            case 1:
                return "repeal" + blanks() + number() + saving();
            case 2:
            case 3:
                return "renumber" + blanks() + number() + blanks() + "to" + blanks() + number();
            case 4:
                return "in" + blanks() + number() + blanks() + "for" + blanks() + of(PLAINS) + blanks() + "put" + blanks()
                        + of(PLAINS) + saving();
            default:
                return "insert" + blanks() + number() + words();
        }
    }

    private String text() {
        StringBuilder text = new StringBuilder(draw(9) == 0 ? " " : "").append(operation());
        int more = draw(4);
        for (int i = 0; i < more; i++) {
            String next = (draw(9) == 0 ? " ; " : ";") + operation();
            if (text.length() + next.length() <= 120) {
                text.append(next);
            }
        }
        return text.toString();
    }

    private String brokenText() {
        String signs = "  ;@0010123456789AZinsertforputosavg\t\n~";
        StringBuilder text = new StringBuilder(text());
        for (int i = draw(4); i > 0; i--) {
            int place = draw(text.length() + 1);
            switch (draw(4)) {
                case 0:
                    text.insert(place, signs.charAt(draw(signs.length())));
                    break;
                case 1:
                    text.setLength(place);
                    break;
                case 2:
                    text.insert(place, "0".repeat(1 + draw(4)));
                    break;
                default:
                    text.delete(place, Math.min(text.length(), place + 1 + draw(2)));
                    break;
            }
        }
        text.setLength(Math.min(text.length(), 120));
        return text.toString();
    }

    private void compareFault(String text) {
        int fault = Model.faultOf(text);
        if (fault == -1) {
            return;
        }
        StatuteBook reader = new StatuteBook();
        Check.type(reader, text);
        CHECK.due("enact of \"" + text + "\"", reader.enact(0), -2000 - fault);
    }

    // ---- drawn calls

    private boolean call() {
        int kind = draw(100);
        if (kind < 22) {
            return enact();
        }
        return kind < 40 ? change() : kind < 60 ? lookAtLaw() : kind < 80 ? question() : whatIf();
    }

    private boolean enact() {
        boolean alike = true;
        if (draw(4) != 0 && model.count(4) > 0) {
            alike = agree("clear()", book.clear(), model.clear());
        }
        String text = draw(8) == 0 ? brokenText() : text();
        for (int i = 0; i < text.length() && alike; i++) {
            int letter = draw(400) == 0 ? of(WRONG) : text.charAt(i);
            alike = agree("type(" + letter + ")", book.type(letter), model.type(letter));
        }
        int day = day();
        return alike && agree("enact(" + day + ")", book.enact(day), model.enact(day));
    }

    private boolean change() {
        int a = amendment();
        int day = day();
        int k = small(2);
        switch (draw(9)) {
            case 0:
            case 1:
                return agree("revoke(" + a + ", true)", book.revoke(a, true), model.revoke(a, true));
            case 2:
                return agree("revoke(" + a + ", false)", book.revoke(a, false), model.revoke(a, false));
            case 3:
            case 4:
                return agree("commence(" + a + ", " + day + ")", book.commence(a, day), model.commence(a, day));
            case 5:
                return agree("withdraw()", book.withdraw(), model.withdraw());
            case 6:
                return agree("undo()", book.undo(), model.undo());
            case 7:
                return agree("save(" + k + ")", book.save(k), model.save(k));
            default:
                return draw(3) != 0 || agree("restore(" + k + ")", book.restore(k), model.restore(k));
        }
    }

    private boolean lookAtLaw() {
        int a = amendment();
        int day = day();
        int caseDay = caseDay();
        int i = small(6);
        int k = small(4);
        int code = code();
        String law = day + ", " + caseDay;
        switch (draw(9)) {
            case 0:
                return agree("amendment(" + a + ", " + i + ")", book.amendment(a, i), model.amendment(a, i));
            case 1:
                int what = small(9);
                return agree("operation(" + a + ", " + k + ", " + what + ")",
                        book.operation(a, k, what), model.operation(a, k, what));
            case 2:
                return agree("word(" + a + ", " + k + ", " + i + ")", book.word(a, k, i), model.word(a, k, i));
            case 3:
                return agree("clauses(" + law + ")", book.clauses(day, caseDay), model.clauses(day, caseDay));
            case 4:
                return agree("clause(" + law + ", " + i + ", " + k + ")",
                        book.clause(day, caseDay, i, k), model.clause(day, caseDay, i, k));
            case 5:
                return agree("textWord(" + law + ", " + i + ", " + k + ")",
                        book.textWord(day, caseDay, i, k), model.textWord(day, caseDay, i, k));
            case 6:
                return agree("find(" + law + ", " + code + ")",
                        book.find(day, caseDay, code), model.find(day, caseDay, code));
            case 7:
                return agree("print(" + law + ")", book.print(day, caseDay), model.print(day, caseDay));
            default:
                int place = small(50);
                return agree("printed(" + place + ")", book.printed(place), model.printed(place));
        }
    }

    private boolean question() {
        int identity = identity();
        int day = day();
        int second = day();
        int what = small(5);
        int k = small(4);
        int word = plain();
        switch (draw(8)) {
            case 0:
                return agree("history(" + identity + ", " + k + ", " + what + ")",
                        book.history(identity, k, what), model.history(identity, k, what));
            case 1:
                return agree("difference(" + day + ", " + second + ", " + what + ")",
                        book.difference(day, second, what), model.difference(day, second, what));
            case 2:
                return agree("containing(" + day + ", " + word + ")",
                        book.containing(day, word), model.containing(day, word));
            case 3:
                return agree("references(" + day + ", " + identity + ")",
                        book.references(day, identity), model.references(day, identity));
            case 4:
                return agree("reach(" + day + ", " + identity + ", " + what + ")",
                        book.reach(day, identity, what), model.reach(day, identity, what));
            case 5:
                int which = small(8);
                return agree("tally(" + which + ")", book.tally(which), model.tally(which));
            case 6:
                return agree("conflict(" + k + ", " + what + ")", book.conflict(k, what), model.conflict(k, what));
            default:
                int number = small(10);
                return agree("count(" + number + ")", book.count(number), model.count(number));
        }
    }

    private boolean whatIf() {
        int a = amendment();
        int day = day();
        int word = plain();
        int code = code();
        int i = draw(4);
        int present = model.clause(Math.floorMod(day, 10000), -1, i, 0);
        switch (draw(6)) {
            case 0:
                return agree("effect(" + a + ", " + day + ")", book.effect(a, day), model.effect(a, day));
            case 1:
                return agree("fewestRevocations(" + day + ", " + word + ")",
                        book.fewestRevocations(day, word), model.fewestRevocations(day, word));
            case 2:
                return agree("between(" + day + ", " + code + ")", book.between(day, code), model.between(day, code));
            case 3:
                return agree("between(" + day + ", " + present + ")",
                        book.between(day, present), model.between(day, present));
            case 4:
                return agree("tidy(" + day + ")", book.tidy(day), model.tidy(day));
            default:
                return agree("digest()", book.digest(), model.digest());
        }
    }
}
