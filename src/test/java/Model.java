import java.util.ArrayDeque;
import java.util.ArrayList;
import java.util.Comparator;
import java.util.HashMap;
import java.util.HashSet;
import java.util.List;
import java.util.Map;
import java.util.Objects;
import java.util.Set;
import java.util.TreeMap;
import java.util.regex.Matcher;
import java.util.regex.Pattern;

/**
 * The document once more, as naively as it can be said and with other means than StatuteBook: a text is read by a
 * regular expression, the law is a map of clauses, a reference is the clause itself.
 */
final class Model {
    private static final int NONE = -1, BAD = -2, STATE = -3, FULL = -4;

    private static final String VALUE = "(?:[1-9][0-9]{0,2}|0[1-9][0-9]?|00[1-9])";
    private static final String NUMBER = VALUE + "(?:[A-Z][A-Z]?)?";
    private static final String WORDS = "(?: *(?:@" + NUMBER + "|(?<![0-9])[0-9]{1,3})){0,6}";
    private static final String CLAUSE = " *" + NUMBER;
    private static final String SAVING = "(?: *saving)?";
    private static final String ONE = " *(?:insert" + CLAUSE + WORDS
            + "|replace" + CLAUSE + WORDS + SAVING
            + "|repeal" + CLAUSE + SAVING
            + "|renumber" + CLAUSE + " *to" + CLAUSE
            + "|in" + CLAUSE + " *for *[0-9]{1,3} *put *[0-9]{1,3}" + SAVING + ") *";
    private static final Pattern ALL = Pattern.compile(ONE + "(?:;" + ONE + "){0,39}");
    private static final Pattern TOKEN = Pattern.compile("[a-z]+|@?[0-9]+[A-Z]*");

    private record Op(int kind, int code, int second, int newWord, boolean saving, List<Integer> words) {
    }

    private static final class Amendment {
        int day;
        boolean revoked;
        List<Op> ops = new ArrayList<>();

        Amendment copy() {
            Amendment copy = new Amendment();
            copy.day = day;
            copy.revoked = revoked;
            copy.ops = ops;
            return copy;
        }
    }

    private static final class Clause {
        final int identity;
        int code;
        boolean inForce;
        int lastDay;
        List<Object> text = new ArrayList<>();

        Clause(int identity) {
            this.identity = identity;
        }
    }

    private record Done(int amendment, int op, int status, Clause clause) {
    }

    /** A consolidation: the clauses in force by their codes, and what was carried out, in its order. */
    private static final class Outcome {
        final TreeMap<Integer, Clause> inForce = new TreeMap<>();
        final List<Done> done = new ArrayList<>();
    }

    private String text = "";
    private String output = "";
    private List<Amendment> amendments = new ArrayList<>();
    private final List<List<Amendment>> states = new ArrayList<>();
    private final Map<Integer, List<Amendment>> snapshots = new HashMap<>();

    private static List<Amendment> copyOf(List<Amendment> from) {
        List<Amendment> copy = new ArrayList<>();
        for (Amendment each : from) {
            copy.add(each.copy());
        }
        return copy;
    }

    private void record() {
        states.add(copyOf(amendments));
        if (states.size() > 10) {
            states.remove(0);
        }
    }

    // ---- texts

    private static boolean canGoOn(String prefix) {
        Matcher matcher = ALL.matcher(prefix);
        return matcher.matches() || matcher.hitEnd();
    }

    private static boolean isSmall(String s, int i) {
        return i < s.length() && s.charAt(i) >= 'a' && s.charAt(i) <= 'z';
    }

    private static boolean isDigit(String s, int i) {
        return i < s.length() && s.charAt(i) >= '0' && s.charAt(i) <= '9';
    }

    /** The first byte with which the text can't go on, moved to the first byte of its word where that is due. */
    static int faultOf(String s) {
        if (ALL.matcher(s).matches()) {
            return NONE;
        }
        int p = 0;
        while (p < s.length() && canGoOn(s.substring(0, p + 1))) {
            p++;
        }
        int start = p;
        while (start > 0 && isSmall(s, start - 1)) {
            start--;
        }
        int end = p;
        while (isSmall(s, end)) {
            end++;
        }
        if (start < p && !canGoOn(s.substring(0, end) + " ")) {
            return start;
        }
        start = p;
        while (start > 0 && isDigit(s, start - 1)) {
            start--;
        }
        end = start;
        boolean zero = isDigit(s, start);
        while (end < start + 3 && isDigit(s, end)) {
            zero &= s.charAt(end) == '0';
            end++;
        }
        boolean mayBeZero = canGoOn(s.substring(0, start) + "000");
        return zero && !mayBeZero && canGoOn(s.substring(0, start)) && start <= p ? start : p;
    }

    private static int codeOf(String number) {
        int digits = 0;
        while (isDigit(number, digits)) {
            digits++;
        }
        int[] letters = new int[2];
        for (int i = digits; i < number.length(); i++) {
            letters[i - digits] = number.charAt(i) - 'A' + 1;
        }
        return 729 * Integer.parseInt(number.substring(0, digits)) + 27 * letters[0] + letters[1];
    }

    private static List<Op> read(String text) {
        List<Op> ops = new ArrayList<>();
        for (String part : text.split(";")) {
            List<String> tokens = new ArrayList<>();
            Matcher matcher = TOKEN.matcher(spaced(part));
            while (matcher.find()) {
                tokens.add(matcher.group());
            }
            ops.add(readOne(tokens));
        }
        return ops;
    }

    /** Puts a blank between letters of a number and the digits behind them. */
    private static String spaced(String part) {
        return part.replaceAll("([A-Z])([0-9])", "$1 $2");
    }

    private static Op readOne(List<String> tokens) {
        int kind = List.of("insert", "replace", "repeal", "renumber", "in").indexOf(tokens.get(0));
        boolean saving = tokens.get(tokens.size() - 1).equals("saving");
        int code = codeOf(tokens.get(1));
        List<Integer> words = new ArrayList<>();
        int second = NONE;
        int newWord = NONE;
        if (kind <= 1) {
            for (String token : tokens.subList(2, tokens.size() - (saving ? 1 : 0))) {
                words.add(token.startsWith("@") ? 1000 + codeOf(token.substring(1)) : Integer.parseInt(token));
            }
        } else if (kind == 3) {
            second = codeOf(tokens.get(3));
        } else if (kind == 4) {
            second = Integer.parseInt(tokens.get(3));
            newWord = Integer.parseInt(tokens.get(5));
        }
        return new Op(kind, code, second, newWord, saving, words);
    }

    int type(int letter) {
        if (letter < 0 || letter > 127) {
            return BAD;
        }
        if (text.length() == 120) {
            return FULL;
        }
        text += (char) letter;
        return text.length();
    }

    int clear() {
        int length = text.length();
        text = "";
        return length;
    }

    int enact(int day) {
        if (!isDay(day)) {
            return BAD;
        }
        int fault = faultOf(text);
        if (fault != NONE) {
            return -2000 - fault;
        }
        int number = add(read(text), day);
        if (number >= 0) {
            text = "";
        }
        return number;
    }

    private int add(List<Op> ops, int day) {
        Amendment amendment = new Amendment();
        amendment.day = day;
        amendment.ops = ops;
        List<Amendment> then = copyOf(amendments);
        then.add(amendment);
        if (then.size() > 20 || operations(then) > 120 || inserts(then) > 40) {
            return FULL;
        }
        record();
        amendments = then;
        return then.size() - 1;
    }

    private static int operations(List<Amendment> all) {
        return all.stream().mapToInt(each -> each.ops.size()).sum();
    }

    private static int inserts(List<Amendment> all) {
        return (int) all.stream().flatMap(each -> each.ops.stream()).filter(op -> op.kind == 0).count();
    }

    private boolean has(int a) {
        return a >= 0 && a < amendments.size();
    }

    private static boolean isDay(int day) {
        return day >= 0 && day < 10000;
    }

    private static boolean isWhat(int what, int last) {
        return what >= 0 && what <= last;
    }

    int revoke(int a, boolean on) {
        if (!has(a)) {
            return BAD;
        }
        if (amendments.get(a).revoked == on) {
            return STATE;
        }
        record();
        amendments.get(a).revoked = on;
        return 1;
    }

    int commence(int a, int day) {
        if (!has(a) || !isDay(day)) {
            return BAD;
        }
        record();
        int previous = amendments.get(a).day;
        amendments.get(a).day = day;
        return previous;
    }

    int withdraw() {
        if (amendments.isEmpty()) {
            return STATE;
        }
        record();
        amendments.remove(amendments.size() - 1);
        return amendments.size();
    }

    int undo() {
        if (states.isEmpty()) {
            return STATE;
        }
        amendments = states.remove(states.size() - 1);
        return states.size();
    }

    // ---- the law

    private int identityOf(int amendment, int op) {
        int identity = 0;
        for (int a = 0; a < amendments.size(); a++) {
            for (int i = 0; i < amendments.get(a).ops.size(); i++) {
                boolean insert = amendments.get(a).ops.get(i).kind == 0;
                if (a == amendment && i == op) {
                    return insert ? identity : NONE;
                }
                identity += insert ? 1 : 0;
            }
        }
        return NONE;
    }

    private Outcome outcome(int day, int caseDay, Set<Integer> revoked) {
        Outcome outcome = new Outcome();
        List<Integer> order = new ArrayList<>();
        for (int a = 0; a < amendments.size(); a++) {
            if (!revoked.contains(a) && amendments.get(a).day <= day) {
                order.add(a);
            }
        }
        order.sort(Comparator.comparingInt(a -> amendments.get(a).day));
        for (int a : order) {
            Amendment amendment = amendments.get(a);
            for (int i = 0; i < amendment.ops.size(); i++) {
                Op op = amendment.ops.get(i);
                if (!op.saving || caseDay == NONE || caseDay >= amendment.day) {
                    outcome.done.add(carryOut(outcome.inForce, a, i, op));
                }
            }
        }
        return outcome;
    }

    private Done carryOut(TreeMap<Integer, Clause> inForce, int a, int i, Op op) {
        Clause clause = op.kind == 0 ? new Clause(identityOf(a, i)) : inForce.get(op.code);
        if (clause == null) {
            return new Done(a, i, 1, null);
        }
        if (op.kind == 0 && inForce.containsKey(op.code) || op.kind == 3 && inForce.containsKey(op.second)) {
            return new Done(a, i, 2, null);
        }
        if (op.kind == 4 && !clause.text.contains(op.second)) {
            return new Done(a, i, 3, null);
        }
        List<Object> text = new ArrayList<>();
        for (int word : op.words) {
            text.add(word < 1000 ? (Object) word : inForce.get(word - 1000));
        }
        if (text.contains(null)) {
            return new Done(a, i, 4, null);
        }
        if (op.kind <= 1) {
            clause.text = text;
        } else if (op.kind == 4) {
            clause.text.replaceAll(word -> word.equals(op.second) ? (Object) op.newWord : word);
        }
        if (op.kind != 0) {
            inForce.remove(op.code);
        }
        clause.inForce = op.kind != 2;
        clause.code = op.kind == 3 ? op.second : op.code;
        clause.lastDay = amendments.get(a).day;
        if (clause.inForce) {
            inForce.put(clause.code, clause);
        }
        return new Done(a, i, 0, clause);
    }

    private Set<Integer> revoked() {
        Set<Integer> revoked = new HashSet<>();
        for (int a = 0; a < amendments.size(); a++) {
            if (amendments.get(a).revoked) {
                revoked.add(a);
            }
        }
        return revoked;
    }

    private List<Clause> law(int day, int caseDay) {
        return new ArrayList<>(outcome(day, caseDay, revoked()).inForce.values());
    }

    private List<Done> full() {
        return outcome(9999, NONE, revoked()).done;
    }

    private Done doneOf(int a, int i) {
        for (Done each : full()) {
            if (each.amendment == a && each.op == i) {
                return each;
            }
        }
        return new Done(a, i, 5, null);
    }

    int amendment(int a, int what) {
        if (!has(a) || !isWhat(what, 3)) {
            return BAD;
        }
        Amendment it = amendments.get(a);
        return switch (what) {
            case 0 -> it.day;
            case 1 -> it.revoked ? 1 : 0;
            case 2 -> it.ops.size();
            default -> (int) full().stream().filter(each -> each.amendment == a && each.status == 0).count();
        };
    }

    int operation(int a, int i, int what) {
        if (!has(a) || i < 0 || i >= amendments.get(a).ops.size() || !isWhat(what, 8)) {
            return BAD;
        }
        Op op = amendments.get(a).ops.get(i);
        return switch (what) {
            case 0 -> op.kind;
            case 1 -> op.code;
            case 2 -> op.second;
            case 3 -> op.newWord;
            case 4 -> op.saving ? 1 : 0;
            case 5 -> op.words.size();
            case 6 -> doneOf(a, i).status;
            case 7 -> doneOf(a, i).status == 0 ? doneOf(a, i).clause.identity : NONE;
            default -> identityOf(a, i);
        };
    }

    int word(int a, int i, int k) {
        if (!has(a) || i < 0 || i >= amendments.get(a).ops.size()) {
            return BAD;
        }
        List<Integer> words = amendments.get(a).ops.get(i).words;
        return k < 0 || k >= words.size() ? BAD : words.get(k);
    }

    private static boolean isLaw(int day, int caseDay) {
        return isDay(day) && (caseDay == NONE || isDay(caseDay));
    }

    int clauses(int day, int caseDay) {
        return isLaw(day, caseDay) ? law(day, caseDay).size() : BAD;
    }

    int clause(int day, int caseDay, int i, int what) {
        if (!isLaw(day, caseDay) || !isWhat(what, 3) || i < 0 || i >= law(day, caseDay).size()) {
            return BAD;
        }
        Clause clause = law(day, caseDay).get(i);
        return new int[] {clause.code, clause.identity, clause.text.size(), clause.lastDay}[what];
    }

    private static int shown(Object word) {
        if (word instanceof Clause clause) {
            return clause.inForce ? 1000 + clause.code : -5;
        }
        return (Integer) word;
    }

    int textWord(int day, int caseDay, int i, int k) {
        if (!isLaw(day, caseDay) || i < 0 || i >= law(day, caseDay).size()) {
            return BAD;
        }
        List<Object> words = law(day, caseDay).get(i).text;
        return k < 0 || k >= words.size() ? BAD : shown(words.get(k));
    }

    private static boolean isCode(int code) {
        for (int integer = 1; integer <= 999; integer++) {
            int rest = code - 729 * integer;
            if (rest == 0 || rest >= 27 && rest < 729) {
                return true;
            }
        }
        return false;
    }

    int find(int day, int caseDay, int code) {
        if (!isLaw(day, caseDay) || !isCode(code)) {
            return BAD;
        }
        List<Clause> law = law(day, caseDay);
        for (int i = 0; i < law.size(); i++) {
            if (law.get(i).code == code) {
                return i;
            }
        }
        return NONE;
    }

    private static String number(int code) {
        String letters = " ABCDEFGHIJKLMNOPQRSTUVWXYZ";
        return (code / 729 + "" + letters.charAt(code / 27 % 27) + letters.charAt(code % 27)).trim();
    }

    int print(int day, int caseDay) {
        if (!isLaw(day, caseDay)) {
            return BAD;
        }
        StringBuilder all = new StringBuilder();
        for (Clause clause : law(day, caseDay)) {
            all.append(number(clause.code));
            for (Object word : clause.text) {
                int shown = shown(word);
                all.append(' ').append(shown == -5 ? "?" : shown < 1000 ? "" + shown : "@" + number(shown - 1000));
            }
            all.append('\n');
        }
        output = all.substring(0, Math.min(1000, all.length()));
        return all.length();
    }

    int printed(int i) {
        return i < 0 ? BAD : i < output.length() ? output.charAt(i) : NONE;
    }

    // ---- questions

    private boolean isIdentity(int identity) {
        return identity >= 0 && identity < inserts(amendments);
    }

    int history(int identity, int k, int what) {
        if (!isIdentity(identity) || k < 0 || !isWhat(what, 2)) {
            return BAD;
        }
        List<Done> own = full().stream().filter(each -> each.status == 0 && each.clause.identity == identity).toList();
        if (k >= own.size()) {
            return NONE;
        }
        Amendment amendment = amendments.get(own.get(k).amendment);
        return new int[] {amendment.day, amendment.ops.get(own.get(k).op).kind, own.get(k).amendment}[what];
    }

    /** The text with each reference told by the identity of its clause, negative. */
    private static List<Integer> meaning(Clause clause) {
        List<Integer> meaning = new ArrayList<>();
        for (Object word : clause.text) {
            meaning.add(word instanceof Clause target ? -1 - target.identity : (Integer) word);
        }
        return meaning;
    }

    /** How many clauses are only in the second law, only in the first, in both with other codes, texts; any of these. */
    private static int[] compare(List<Clause> first, List<Clause> second) {
        int[] numbers = new int[5];
        for (int identity = 0; identity < 40; identity++) {
            int wanted = identity;
            Clause one = first.stream().filter(each -> each.identity == wanted).findAny().orElse(null);
            Clause two = second.stream().filter(each -> each.identity == wanted).findAny().orElse(null);
            boolean[] found = {one == null && two != null, one != null && two == null,
                one != null && two != null && one.code != two.code,
                one != null && two != null && !meaning(one).equals(meaning(two))};
            for (int what = 0; what < 4; what++) {
                numbers[what] += found[what] ? 1 : 0;
            }
            numbers[4] += found[0] || found[1] || found[2] || found[3] ? 1 : 0;
        }
        return numbers;
    }

    int difference(int first, int second, int what) {
        if (!isDay(first) || !isDay(second) || !isWhat(what, 3)) {
            return BAD;
        }
        return compare(law(first, NONE), law(second, NONE))[what];
    }

    private static int containing(List<Clause> law, int word) {
        return (int) law.stream().filter(clause -> clause.text.contains(word)).count();
    }

    int containing(int day, int word) {
        return isDay(day) && isWhat(word, 999) ? containing(law(day, NONE), word) : BAD;
    }

    int references(int day, int identity) {
        if (!isDay(day) || identity != NONE && !isIdentity(identity)) {
            return BAD;
        }
        int number = 0;
        for (Clause clause : law(day, NONE)) {
            for (Object word : clause.text) {
                if (word instanceof Clause to && (identity == NONE ? !to.inForce : to.identity == identity)) {
                    number++;
                }
            }
        }
        return number;
    }

    int reach(int day, int identity, int what) {
        if (!isDay(day) || !isIdentity(identity) || !isWhat(what, 2)) {
            return BAD;
        }
        Clause first = law(day, NONE).stream().filter(each -> each.identity == identity).findAny().orElse(null);
        if (first == null) {
            return STATE;
        }
        Map<Clause, Integer> distances = new HashMap<>(Map.of(first, 0));
        ArrayDeque<Clause> queue = new ArrayDeque<>(List.of(first));
        boolean back = false;
        while (!queue.isEmpty()) {
            Clause clause = queue.remove();
            for (Object word : clause.text) {
                back |= word == first;
                if (word instanceof Clause to && to.inForce && !distances.containsKey(to)) {
                    distances.put(to, distances.get(clause) + 1);
                    queue.add(to);
                }
            }
        }
        int farthest = distances.values().stream().max(Comparator.naturalOrder()).get();
        return new int[] {distances.size(), farthest, back ? 1 : 0}[what];
    }

    private List<int[]> conflicts() {
        List<int[]> found = new ArrayList<>();
        List<Done> all = full().stream().filter(each -> each.status == 0).toList();
        for (Done one : all) {
            for (Done two : all) {
                boolean sameDay = amendments.get(one.amendment).day == amendments.get(two.amendment).day;
                if (one.amendment < two.amendment && sameDay && one.clause == two.clause) {
                    found.add(new int[] {one.amendment, one.op, two.amendment, two.op, one.clause.identity});
                }
            }
        }
        found.sort((x, y) -> java.util.Arrays.compare(x, y));
        return found;
    }

    int tally(int what) {
        if (!isWhat(what, 6)) {
            return BAD;
        }
        if (what == 6) {
            return conflicts().size();
        }
        List<Done> done = full();
        return what == 5 ? operations(amendments) - done.size()
                : (int) done.stream().filter(each -> each.status == what).count();
    }

    int conflict(int k, int what) {
        if (k < 0 || !isWhat(what, 4)) {
            return BAD;
        }
        return k < conflicts().size() ? conflicts().get(k)[what] : NONE;
    }

    // ---- what if

    int effect(int a, int day) {
        if (!has(a) || !isDay(day)) {
            return BAD;
        }
        Set<Integer> other = revoked();
        if (!other.remove(a)) {
            other.add(a);
        }
        return compare(law(day, NONE), new ArrayList<>(outcome(day, NONE, other).inForce.values()))[4];
    }

    int fewestRevocations(int day, int word) {
        if (!isDay(day) || !isWhat(word, 999)) {
            return BAD;
        }
        int best = NONE;
        List<Integer> sets = new ArrayList<>(List.of(0));
        for (int a = 0; a < amendments.size(); a++) {
            for (int b = 0; b <= a; b++) {
                sets.add(1 << a | 1 << b);
            }
        }
        for (int set : sets) {
            Set<Integer> then = revoked();
            boolean further = true;
            for (int a = 0; a < amendments.size(); a++) {
                further &= (set >> a & 1) == 0 || then.add(a);
            }
            if (further && containing(new ArrayList<>(outcome(day, NONE, then).inForce.values()), word) == 0) {
                boolean fewer = best == NONE || Integer.bitCount(set) < Integer.bitCount(best);
                boolean smaller = Integer.bitCount(set) == Integer.bitCount(best) && set < best;
                best = fewer || smaller ? set : best;
            }
        }
        return best;
    }

    int between(int day, int code) {
        if (!isDay(day) || !isCode(code)) {
            return BAD;
        }
        TreeMap<Integer, Clause> law = outcome(day, NONE, revoked()).inForce;
        if (!law.containsKey(code)) {
            return STATE;
        }
        int end = Objects.requireNonNullElse(law.higherKey(code), 729000);
        for (int letters = 0; letters <= 2; letters++) {
            for (int each = code + 1; each < end && each < code + 2000; each++) {
                int own = each % 729 == 0 ? 0 : each % 27 == 0 ? 1 : 2;
                if (isCode(each) && own == letters) {
                    return each;
                }
            }
        }
        return NONE;
    }

    int tidy(int day) {
        if (!isDay(day)) {
            return BAD;
        }
        List<Op> ops = new ArrayList<>();
        int up = 0;
        int number = 0;
        for (Clause clause : law(day, NONE)) {
            number++;
            Op op = new Op(3, clause.code, 729 * number, NONE, false, List.of());
            if (op.second > op.code) {
                ops.add(0, op);
            } else if (op.second < op.code) {
                ops.add(op);
            }
            up += op.second > op.code ? 1 : 0;
        }
        if (ops.isEmpty()) {
            return STATE;
        }
        ops.subList(0, up).sort((x, y) -> y.code - x.code);
        ops.subList(up, ops.size()).sort((x, y) -> x.code - y.code);
        return add(ops, day);
    }

    // ---- snapshots

    int save(int k) {
        if (!isWhat(k, 1)) {
            return BAD;
        }
        snapshots.put(k, copyOf(amendments));
        return amendments.size();
    }

    int restore(int k) {
        if (!isWhat(k, 1)) {
            return BAD;
        }
        if (!snapshots.containsKey(k)) {
            return STATE;
        }
        amendments = copyOf(snapshots.get(k));
        states.clear();
        return amendments.size();
    }

    int count(int what) {
        if (!isWhat(what, 8)) {
            return BAD;
        }
        return new int[] {amendments.size(), operations(amendments), inserts(amendments), states.size(), text.length(),
            output.length(), revoked().size(), snapshots.size(), law(9999, NONE).size()}[what];
    }

    long digest() {
        List<Integer> all = new ArrayList<>();
        for (int what = 0; what <= 8; what++) {
            all.add(count(what));
        }
        for (int a = 0; a < amendments.size(); a++) {
            for (int what = 0; what <= 3; what++) {
                all.add(amendment(a, what));
            }
            for (int i = 0; i < amendments.get(a).ops.size(); i++) {
                for (int what = 0; what <= 8; what++) {
                    all.add(operation(a, i, what));
                }
                all.addAll(amendments.get(a).ops.get(i).words);
            }
        }
        for (Clause clause : law(9999, NONE)) {
            all.addAll(List.of(clause.code, clause.identity, clause.text.size(), clause.lastDay));
            clause.text.forEach(word -> all.add(shown(word)));
        }
        for (int what = 0; what <= 6; what++) {
            all.add(tally(what));
        }
        output.chars().forEach(all::add);
        text.chars().forEach(all::add);
        long hash = 311;
        for (int each : all) {
            hash = 31 * hash + each;
        }
        return hash;
    }
}
