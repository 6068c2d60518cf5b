import java.util.Arrays;

/** A workbench for consolidated statutes; shared/DOC.md says what each call promises. */
public final class StatuteBook {
    public static final int NONE = -1, BAD = -2, STATE = -3, FULL = -4;
    public static final int VOID = -5;

    private static final int LAST_DAY = 9999;
    private static final int LAST_WORD = 999;
    private static final int LAST_LETTER = 127;
    private static final int FIRST_FAULT = -2000;
    private static final int FIRST_HASH = 311;

    private static final int MAX_AMENDMENTS = 20;
    private static final int MAX_OPERATIONS = 120;
    private static final int MAX_OPERATIONS_EACH = 40;
    private static final int MAX_IDENTITIES = 40;
    private static final int MAX_WORDS = 6;
    private static final int MAX_STATES = 10;
    private static final int SNAPSHOTS = 2;
    private static final int TEXT_LIMIT = 120;
    private static final int OUTPUT_LIMIT = 1000;

    /** What one integer, and one first letter, weigh in the code of a number. */
    private static final int INTEGER = 729, LETTER = 27;
    private static final int LAST_INTEGER = 999, LETTERS = 26;

    /** Words from here on are references: 1000 + a code as enacted, 1000 + an identity in the law. */
    private static final int REFERENCE = 1000;

    private static final int INSERT = 0, REPLACE = 1, REPEAL = 2, RENUMBER = 3, CHANGE = 4;

    private static final int EFFECT = 0, NO_CLAUSE = 1, TAKEN = 2, NO_WORD = 3, NO_TARGET = 4, REVOKED = 5;

    /** The cells of an operation; the first six lie as operation() numbers its properties. */
    private static final int KIND = 0, NUMBER = 1, SECOND = 2, NEW_WORD = 3, SAVING = 4, WORD_COUNT = 5;
    private static final int IDENTITY = 6, WORDS = 7, OPERATION_CELLS = WORDS + MAX_WORDS;

    private static final int BLANK = 32, LINE_FEED = 10;

    private final Reader reader = new Reader();
    private final Page output = new Page(OUTPUT_LIMIT);
    private final Amendments book = new Amendments();
    private final Archive archive = new Archive();
    private final Law law = new Law();
    private final Law otherLaw = new Law();
    private final Walk walk = new Walk();

    public StatuteBook() {
    }

    // ---- text, amendments

    public int type(int letter) {
        if (!within(letter, LAST_LETTER)) {
            return BAD;
        }
        if (reader.text.kept() >= TEXT_LIMIT) {
            return FULL;
        }
        reader.text.append(letter);
        return reader.text.kept();
    }

    public int clear() {
        int length = reader.text.kept();
        reader.text.makeEmpty();
        return length;
    }

    public int enact(int day) {
        if (!within(day, LAST_DAY)) {
            return BAD;
        }
        int fault = reader.readAmendment();
        if (fault != NONE) {
            return FIRST_FAULT - fault;
        }
        int number = addDraft(day);
        if (number != FULL) {
            reader.text.makeEmpty();
        }
        return number;
    }

    private int addDraft(int day) {
        if (!book.hasRoomFor(reader.draft)) {
            return FULL;
        }
        archive.push(book);
        book.add(reader.draft, day);
        return book.size() - 1;
    }

    public int revoke(int amendment, boolean on) {
        if (!book.has(amendment)) {
            return BAD;
        }
        if (book.isRevoked(amendment) == on) {
            return STATE;
        }
        archive.push(book);
        book.setRevoked(book.revoked() ^ (1 << amendment));
        return 1;
    }

    public int commence(int amendment, int day) {
        if (!book.has(amendment) || !within(day, LAST_DAY)) {
            return BAD;
        }
        int previous = book.day(amendment);
        archive.push(book);
        book.setDay(amendment, day);
        return previous;
    }

    public int withdraw() {
        if (book.size() == 0) {
            return STATE;
        }
        archive.push(book);
        book.removeLast();
        return book.size();
    }

    public int undo() {
        if (archive.states() == 0) {
            return STATE;
        }
        archive.pop(book);
        return archive.states();
    }

    public int amendment(int amendment, int what) {
        if (!book.has(amendment) || !within(what, 3)) {
            return BAD;
        }
        consolidateFully();
        return amendmentPart(amendment, what);
    }

    /** Wants the full law consolidated. */
    private int amendmentPart(int amendment, int what) {
        switch (what) {
            case 0:
                return book.day(amendment);
            case 1:
                return book.isRevoked(amendment) ? 1 : 0;
            case 2:
                return book.operationsOf(amendment);
            default:
                return law.effective(book.start(amendment), book.start(amendment + 1));
        }
    }

    public int operation(int amendment, int operation, int what) {
        if (!book.hasOperation(amendment, operation) || !within(what, 8)) {
            return BAD;
        }
        consolidateFully();
        return operationPart(book.start(amendment) + operation, what);
    }

    /** Wants the full law consolidated. */
    private int operationPart(int op, int what) {
        switch (what) {
            case 6:
                return law.status(op);
            case 7:
                return law.affected(op);
            case 8:
                return book.cell(op, IDENTITY);
            default:
                return book.cell(op, what);
        }
    }

    public int word(int amendment, int operation, int k) {
        if (!book.hasOperation(amendment, operation)) {
            return BAD;
        }
        int op = book.start(amendment) + operation;
        if (k < 0 || k >= book.cell(op, WORD_COUNT)) {
            return BAD;
        }
        return book.cell(op, WORDS + k);
    }

    // ---- the law

    public int clauses(int day, int caseDay) {
        if (!isLaw(day, caseDay)) {
            return BAD;
        }
        consolidate(day, caseDay);
        return law.size();
    }

    public int clause(int day, int caseDay, int i, int what) {
        if (!isLaw(day, caseDay) || !within(what, 3)) {
            return BAD;
        }
        consolidate(day, caseDay);
        return i < 0 || i >= law.size() ? BAD : clausePart(law.at(i), what);
    }

    private int clausePart(int identity, int what) {
        switch (what) {
            case 0:
                return law.code(identity);
            case 1:
                return identity;
            case 2:
                return law.length(identity);
            default:
                return law.lastDay(identity);
        }
    }

    public int textWord(int day, int caseDay, int i, int k) {
        if (!isLaw(day, caseDay)) {
            return BAD;
        }
        consolidate(day, caseDay);
        if (i < 0 || i >= law.size() || k < 0 || k >= law.length(law.at(i))) {
            return BAD;
        }
        return presentWord(law.at(i), k);
    }

    /** A word of the law with the number that a reference has now. */
    private int presentWord(int identity, int k) {
        int said = law.said(identity, k);
        if (said < REFERENCE) {
            return said;
        }
        int code = law.code(said - REFERENCE);
        return code == 0 ? VOID : REFERENCE + code;
    }

    public int find(int day, int caseDay, int code) {
        if (!isLaw(day, caseDay) || !isCode(code)) {
            return BAD;
        }
        consolidate(day, caseDay);
        return law.indexOf(code);
    }

    public int print(int day, int caseDay) {
        if (!isLaw(day, caseDay)) {
            return BAD;
        }
        consolidate(day, caseDay);
        output.makeEmpty();
        for (int i = 0; i < law.size(); i++) {
            printClause(law.at(i));
        }
        return output.written();
    }

    private void printClause(int identity) {
        output.appendNumber(law.code(identity));
        for (int k = 0; k < law.length(identity); k++) {
            output.append(BLANK);
            int shown = presentWord(identity, k);
            if (shown == VOID) {
                output.append('?');
            } else if (shown >= REFERENCE) {
                output.append('@');
                output.appendNumber(shown - REFERENCE);
            } else {
                output.appendInteger(shown);
            }
        }
        output.append(LINE_FEED);
    }

    public int printed(int i) {
        return i < 0 ? BAD : output.byteAt(i);
    }

    // ---- questions about the plain law

    public int history(int identity, int k, int what) {
        if (!isIdentity(identity) || k < 0 || !within(what, 2)) {
            return BAD;
        }
        consolidateFully();
        int op = law.effectOn(identity, k);
        if (op == NONE) {
            return NONE;
        }
        int amendment = book.amendmentOf(op);
        switch (what) {
            case 0:
                return book.day(amendment);
            case 1:
                return book.cell(op, KIND);
            default:
                return amendment;
        }
    }

    public int difference(int first, int second, int what) {
        if (!within(first, LAST_DAY) || !within(second, LAST_DAY) || !within(what, 3)) {
            return BAD;
        }
        consolidate(first, NONE);
        otherLaw.consolidate(book, second, NONE, book.revoked());
        int number = 0;
        for (int identity = 0; identity < MAX_IDENTITIES; identity++) {
            if (differs(identity, what)) {
                number++;
            }
        }
        return number;
    }

    /** Whether the two laws differ in a clause in the way that difference() numbers. */
    private boolean differs(int identity, int what) {
        int code = law.code(identity);
        int otherCode = otherLaw.code(identity);
        boolean both = code != 0 && otherCode != 0;
        switch (what) {
            case 0:
                return code == 0 && otherCode != 0;
            case 1:
                return code != 0 && otherCode == 0;
            case 2:
                return both && code != otherCode;
            default:
                return both && !law.saysTheSame(otherLaw, identity);
        }
    }

    public int containing(int day, int word) {
        if (!within(day, LAST_DAY) || !within(word, LAST_WORD)) {
            return BAD;
        }
        consolidate(day, NONE);
        return law.clausesWith(word);
    }

    public int references(int day, int identity) {
        if (!within(day, LAST_DAY) || identity != NONE && !isIdentity(identity)) {
            return BAD;
        }
        consolidate(day, NONE);
        int number = 0;
        for (int i = 0; i < law.size(); i++) {
            number += referencesFrom(law.at(i), identity);
        }
        return number;
    }

    private int referencesFrom(int clause, int identity) {
        int number = 0;
        for (int k = 0; k < law.length(clause); k++) {
            int target = law.target(clause, k);
            boolean isVoid = target != NONE && law.code(target) == 0;
            if (identity == NONE ? isVoid : target == identity) {
                number++;
            }
        }
        return number;
    }

    public int reach(int day, int identity, int what) {
        if (!within(day, LAST_DAY) || !isIdentity(identity) || !within(what, 2)) {
            return BAD;
        }
        consolidate(day, NONE);
        if (law.code(identity) == 0) {
            return STATE;
        }
        walk.follow(law, identity);
        switch (what) {
            case 0:
                return walk.reached();
            case 1:
                return walk.greatestDistance();
            default:
                return walk.comesBack() ? 1 : 0;
        }
    }

    public int tally(int what) {
        if (!within(what, 6)) {
            return BAD;
        }
        consolidateFully();
        return tallyPart(what);
    }

    /** Wants the full law consolidated. */
    private int tallyPart(int what) {
        if (what == 6) {
            return conflicts();
        }
        int number = 0;
        for (int op = 0; op < book.operations(); op++) {
            if (law.status(op) == what) {
                number++;
            }
        }
        return number;
    }

    private int conflicts() {
        int number = 0;
        for (int op = 0; op < book.operations(); op++) {
            for (int later = op + 1; later < book.operations(); later++) {
                if (clash(op, later)) {
                    number++;
                }
            }
        }
        return number;
    }

    private boolean clash(int op, int later) {
        int clause = law.affected(op);
        if (clause == NONE || clause != law.affected(later)) {
            return false;
        }
        int amendment = book.amendmentOf(op);
        int other = book.amendmentOf(later);
        return amendment != other && book.day(amendment) == book.day(other);
    }

    public int conflict(int k, int what) {
        if (k < 0 || !within(what, 4)) {
            return BAD;
        }
        consolidateFully();
        int seen = 0;
        for (int op = 0; op < book.operations(); op++) {
            for (int later = op + 1; later < book.operations(); later++) {
                if (clash(op, later)) {
                    if (seen == k) {
                        return conflictPart(op, later, what);
                    }
                    seen++;
                }
            }
        }
        return NONE;
    }

    private int conflictPart(int op, int later, int what) {
        int amendment = book.amendmentOf(op);
        int other = book.amendmentOf(later);
        switch (what) {
            case 0:
                return amendment;
            case 1:
                return op - book.start(amendment);
            case 2:
                return other;
            case 3:
                return later - book.start(other);
            default:
                return law.affected(op);
        }
    }

    // ---- what if

    public int effect(int amendment, int day) {
        if (!book.has(amendment) || !within(day, LAST_DAY)) {
            return BAD;
        }
        consolidate(day, NONE);
        otherLaw.consolidate(book, day, NONE, book.revoked() ^ (1 << amendment));
        int number = 0;
        for (int identity = 0; identity < MAX_IDENTITIES; identity++) {
            if (differs(identity, 0) || differs(identity, 1) || differs(identity, 2) || differs(identity, 3)) {
                number++;
            }
        }
        return number;
    }

    public int fewestRevocations(int day, int word) {
        if (!within(day, LAST_DAY) || !within(word, LAST_WORD)) {
            return BAD;
        }
        if (vanishes(day, word, 0)) {
            return 0;
        }
        for (int a = 0; a < book.size(); a++) {
            if (isCarriedOut(a, day) && vanishes(day, word, 1 << a)) {
                return 1 << a;
            }
        }
        // The higher amendment outweighs the lower one in the number of a set, so it leads the order.
        for (int high = 1; high < book.size(); high++) {
            for (int low = 0; low < high; low++) {
                int set = (1 << high) | (1 << low);
                if (isCarriedOut(high, day) && isCarriedOut(low, day) && vanishes(day, word, set)) {
                    return set;
                }
            }
        }
        return NONE;
    }

    /** To revoke any other amendment changes nothing on the day, so no fewest set has it. */
    private boolean isCarriedOut(int amendment, int day) {
        return !book.isRevoked(amendment) && book.day(amendment) <= day;
    }

    private boolean vanishes(int day, int word, int set) {
        law.consolidate(book, day, NONE, book.revoked() | set);
        return law.clausesWith(word) == 0;
    }

    public int between(int day, int code) {
        if (!within(day, LAST_DAY) || !isCode(code)) {
            return BAD;
        }
        consolidate(day, NONE);
        int index = law.indexOf(code);
        if (index == NONE) {
            return STATE;
        }
        boolean last = index == law.size() - 1;
        int end = last ? (LAST_INTEGER + 1) * INTEGER : law.code(law.at(index + 1));
        return numberBetween(code, end);
    }

    /**
     * Tries one number for each count of letters. Where it does not fit, no other with as many letters does:
     * they are greater, or stand behind a number with fewer letters that did not fit either.
     */
    private static int numberBetween(int code, int end) {
        int first = code % INTEGER / LETTER;
        int second = code % LETTER;
        int withoutLetter = (code / INTEGER + 1) * INTEGER;
        if (withoutLetter < end) {
            return withoutLetter;
        }
        int withOne = code - second + LETTER;
        if (first < LETTERS && withOne < end) {
            return withOne;
        }
        int withTwo = code + 1;
        return first > 0 && second < LETTERS && withTwo < end ? withTwo : NONE;
    }

    public int tidy(int day) {
        if (!within(day, LAST_DAY)) {
            return BAD;
        }
        consolidate(day, NONE);
        draftTidying(reader.draft);
        return reader.draft.size() == 0 ? STATE : addDraft(day);
    }

    /** The order of the document frees each number before another clause gets it. */
    private void draftTidying(Draft draft) {
        draft.makeEmpty();
        for (int i = law.size() - 1; i >= 0; i--) {
            int code = law.code(law.at(i));
            if ((i + 1) * INTEGER > code) {
                draft.begin(RENUMBER, code);
                draft.put(SECOND, (i + 1) * INTEGER);
            }
        }
        for (int i = 0; i < law.size(); i++) {
            int code = law.code(law.at(i));
            if ((i + 1) * INTEGER < code) {
                draft.begin(RENUMBER, code);
                draft.put(SECOND, (i + 1) * INTEGER);
            }
        }
    }

    // ---- snapshots

    public int save(int k) {
        if (!within(k, SNAPSHOTS - 1)) {
            return BAD;
        }
        archive.keepSnapshot(k, book);
        return book.size();
    }

    public int restore(int k) {
        if (!within(k, SNAPSHOTS - 1)) {
            return BAD;
        }
        if (!archive.hasSnapshot(k)) {
            return STATE;
        }
        archive.bringSnapshot(k, book);
        return book.size();
    }

    public int count(int what) {
        if (!within(what, 8)) {
            return BAD;
        }
        consolidateFully();
        return countPart(what);
    }

    /** Wants the full law consolidated. */
    private int countPart(int what) {
        switch (what) {
            case 0:
                return book.size();
            case 1:
                return book.operations();
            case 2:
                return book.identities();
            case 3:
                return archive.states();
            case 4:
                return reader.text.kept();
            case 5:
                return output.kept();
            case 6:
                return Integer.bitCount(book.revoked());
            case 7:
                return archive.snapshots();
            default:
                return law.size();
        }
    }

    public long digest() {
        consolidateFully();
        long hash = FIRST_HASH;
        for (int what = 0; what <= 8; what++) {
            hash = mixed(hash, countPart(what));
        }
        for (int a = 0; a < book.size(); a++) {
            hash = mixedAmendment(hash, a);
        }
        for (int i = 0; i < law.size(); i++) {
            hash = mixedClause(hash, law.at(i));
        }
        for (int what = 0; what <= 6; what++) {
            hash = mixed(hash, tallyPart(what));
        }
        return mixedPage(mixedPage(hash, output), reader.text);
    }

    private static long mixed(long hash, int number) {
        return 31 * hash + number;
    }

    private long mixedAmendment(long start, int amendment) {
        long hash = start;
        for (int what = 0; what <= 3; what++) {
            hash = mixed(hash, amendmentPart(amendment, what));
        }
        for (int op = book.start(amendment); op < book.start(amendment + 1); op++) {
            for (int what = 0; what <= 8; what++) {
                hash = mixed(hash, operationPart(op, what));
            }
            for (int k = 0; k < book.cell(op, WORD_COUNT); k++) {
                hash = mixed(hash, book.cell(op, WORDS + k));
            }
        }
        return hash;
    }

    private long mixedClause(long start, int identity) {
        long hash = start;
        for (int what = 0; what <= 3; what++) {
            hash = mixed(hash, clausePart(identity, what));
        }
        for (int k = 0; k < law.length(identity); k++) {
            hash = mixed(hash, presentWord(identity, k));
        }
        return hash;
    }

    private static long mixedPage(long start, Page page) {
        long hash = start;
        for (int i = 0; i < page.kept(); i++) {
            hash = mixed(hash, page.byteAt(i));
        }
        return hash;
    }

    // ---- what several calls need

    private void consolidate(int day, int caseDay) {
        law.consolidate(book, day, caseDay, book.revoked());
    }

    private void consolidateFully() {
        law.consolidate(book, LAST_DAY, NONE, book.revoked());
    }

    private static boolean within(int value, int last) {
        return value >= 0 && value <= last;
    }

    private static boolean isLaw(int day, int caseDay) {
        return within(day, LAST_DAY) && (caseDay == NONE || within(caseDay, LAST_DAY));
    }

    private boolean isIdentity(int identity) {
        return identity >= 0 && identity < book.identities();
    }

    private static boolean isCode(int code) {
        int integer = code / INTEGER;
        int first = code % INTEGER / LETTER;
        int second = code % LETTER;
        return integer >= 1 && integer <= LAST_INTEGER && (first > 0 || second == 0);
    }

    /** A row of numbers that tests each index, so that no access can fail: outside it reads 0 and writes nothing. */
    private static final class Row {
        private final int[] cells;

        Row(int length) {
            cells = new int[Math.max(length, 0)];
        }

        int get(int i) {
            return i >= 0 && i < cells.length ? cells[i] : 0;
        }

        void set(int i, int value) {
            if (i >= 0 && i < cells.length) {
                cells[i] = value;
            }
        }

        void fill(int value) {
            Arrays.fill(cells, value);
        }

        /** Copies cells of another row, those from start on, to the place here. */
        void take(Row from, int start, int here, int length) {
            boolean isThere = start >= 0 && length >= 0 && start <= from.cells.length - length;
            if (isThere && here >= 0 && here <= cells.length - length) {
                System.arraycopy(from.cells, start, cells, here, length);
            }
        }
    }

    /** Bytes of which only the first ones are kept, and all are counted. */
    private static final class Page {
        private final int[] bytes;
        private int written;

        Page(int limit) {
            bytes = new int[Math.max(limit, 0)];
        }

        void makeEmpty() {
            written = 0;
        }

        int written() {
            return written;
        }

        int kept() {
            return Math.min(written, bytes.length);
        }

        int byteAt(int i) {
            return i >= 0 && i < written && i < bytes.length ? bytes[i] : NONE;
        }

        void append(int letter) {
            if (written >= 0 && written < bytes.length) {
                bytes[written] = letter;
            }
            written++;
        }

        /** For integers up to 999. */
        void appendInteger(int value) {
            if (value >= 100) {
                append('0' + value / 100);
            }
            if (value >= 10) {
                append('0' + value / 10 % 10);
            }
            append('0' + value % 10);
        }

        void appendNumber(int code) {
            int first = code % INTEGER / LETTER;
            int second = code % LETTER;
            appendInteger(code / INTEGER);
            if (first > 0) {
                append('A' + first - 1);
            }
            if (second > 0) {
                append('A' + second - 1);
            }
        }
    }

    /** The operations of an amendment that is not enacted yet. */
    private static final class Draft {
        private final Row cells = new Row(MAX_OPERATIONS_EACH * OPERATION_CELLS);
        private int size;
        private int inserts;

        void makeEmpty() {
            size = 0;
            inserts = 0;
        }

        int size() {
            return size;
        }

        int inserts() {
            return inserts;
        }

        void begin(int kind, int number) {
            size++;
            put(KIND, kind);
            put(NUMBER, number);
            put(SECOND, NONE);
            put(NEW_WORD, NONE);
            put(SAVING, 0);
            put(WORD_COUNT, 0);
            put(IDENTITY, NONE);
            if (kind == INSERT) {
                inserts++;
            }
        }

        /** Sets a cell of the operation that was begun last. */
        void put(int cell, int value) {
            cells.set((size - 1) * OPERATION_CELLS + cell, value);
        }

        void addWord(int word) {
            int length = cells.get((size - 1) * OPERATION_CELLS + WORD_COUNT);
            put(WORDS + length, word);
            put(WORD_COUNT, length + 1);
        }
    }

    /** All amendments, in one row so that a state is copied at once. */
    private static final class Amendments {
        private static final int SIZE = 0, OPERATIONS = 1, IDENTITIES = 2, REVOKED_SET = 3;
        private static final int DAYS = 4;
        /** Where the operations of each amendment start, and those of the next one that may come. */
        private static final int STARTS = DAYS + MAX_AMENDMENTS;
        private static final int FIRST_OPERATION = STARTS + MAX_AMENDMENTS + 1;
        private static final int CELLS = FIRST_OPERATION + MAX_OPERATIONS * OPERATION_CELLS;

        private final Row cells = new Row(CELLS);

        int size() {
            return cells.get(SIZE);
        }

        int operations() {
            return cells.get(OPERATIONS);
        }

        int identities() {
            return cells.get(IDENTITIES);
        }

        /** The revoked amendments, bit a for amendment a. */
        int revoked() {
            return cells.get(REVOKED_SET);
        }

        void setRevoked(int set) {
            cells.set(REVOKED_SET, set);
        }

        boolean isRevoked(int amendment) {
            return (cells.get(REVOKED_SET) >> amendment & 1) == 1;
        }

        int day(int amendment) {
            return cells.get(DAYS + amendment);
        }

        void setDay(int amendment, int day) {
            cells.set(DAYS + amendment, day);
        }

        int start(int amendment) {
            return cells.get(STARTS + amendment);
        }

        int operationsOf(int amendment) {
            return start(amendment + 1) - start(amendment);
        }

        boolean has(int amendment) {
            return amendment >= 0 && amendment < size();
        }

        boolean hasOperation(int amendment, int operation) {
            return has(amendment) && operation >= 0 && operation < operationsOf(amendment);
        }

        int cell(int op, int cell) {
            return cells.get(FIRST_OPERATION + op * OPERATION_CELLS + cell);
        }

        int amendmentOf(int op) {
            int amendment = 0;
            while (amendment < size() && start(amendment + 1) <= op) {
                amendment++;
            }
            return amendment;
        }

        boolean hasRoomFor(Draft draft) {
            return size() < MAX_AMENDMENTS
                    && operations() + draft.size() <= MAX_OPERATIONS
                    && identities() + draft.inserts() <= MAX_IDENTITIES;
        }

        void add(Draft draft, int day) {
            int first = operations();
            int end = first + draft.size();
            int place = FIRST_OPERATION + first * OPERATION_CELLS;
            cells.take(draft.cells, 0, place, draft.size() * OPERATION_CELLS);
            for (int op = first; op < end; op++) {
                if (cell(op, KIND) == INSERT) {
                    cells.set(FIRST_OPERATION + op * OPERATION_CELLS + IDENTITY, identities());
                    cells.set(IDENTITIES, identities() + 1);
                }
            }
            setDay(size(), day);
            cells.set(SIZE, size() + 1);
            cells.set(STARTS + size(), end);
            cells.set(OPERATIONS, end);
        }

        void removeLast() {
            int last = size() - 1;
            for (int op = start(last); op < operations(); op++) {
                if (cell(op, KIND) == INSERT) {
                    cells.set(IDENTITIES, identities() - 1);
                }
            }
            cells.set(OPERATIONS, start(last));
            setRevoked(revoked() & ~(1 << last));
            cells.set(SIZE, last);
        }
    }

    /** States put away: the history as a ring of slots, and behind it the snapshots. */
    private static final class Archive {
        private final Row cells = new Row((MAX_STATES + SNAPSHOTS) * Amendments.CELLS);
        private int states;
        private int newest;
        private int saved;

        int states() {
            return states;
        }

        private void putAway(int slot, Amendments book) {
            cells.take(book.cells, 0, slot * Amendments.CELLS, Amendments.CELLS);
        }

        private void bring(int slot, Amendments book) {
            book.cells.take(cells, slot * Amendments.CELLS, 0, Amendments.CELLS);
        }

        void push(Amendments book) {
            newest = (newest + 1) % MAX_STATES;
            states = Math.min(states + 1, MAX_STATES);
            putAway(newest, book);
        }

        void pop(Amendments book) {
            bring(newest, book);
            newest = (newest + MAX_STATES - 1) % MAX_STATES;
            states--;
        }

        int snapshots() {
            return Integer.bitCount(saved);
        }

        boolean hasSnapshot(int k) {
            return (saved >> k & 1) == 1;
        }

        void keepSnapshot(int k, Amendments book) {
            putAway(MAX_STATES + k, book);
            saved |= 1 << k;
        }

        void bringSnapshot(int k, Amendments book) {
            bring(MAX_STATES + k, book);
            states = 0;
        }
    }

    /** The text that is typed, and the draft that it is read into. */
    private static final class Reader {
        private final Page text = new Page(TEXT_LIMIT);
        private final Draft draft = new Draft();
        private int place;
        private int fault;

        /** Returns the fault of the text, or NONE. */
        int readAmendment() {
            draft.makeEmpty();
            place = 0;
            fault = NONE;
            boolean more = true;
            for (int i = 0; more && i <= MAX_OPERATIONS_EACH; i++) {
                readOperation();
                more = fault == NONE && readSemicolon();
            }
            return fault;
        }

        /** Only the first fault counts. */
        private void fail(int at) {
            if (fault == NONE) {
                fault = at;
            }
        }

        private void readOperation() {
            skipBlanks();
            int kind = draft.size() < MAX_OPERATIONS_EACH ? readKind() : NONE;
            if (kind == NONE) {
                fail(place);
                return;
            }
            skipBlanks();
            draft.begin(kind, readNumber());
            if (kind == INSERT || kind == REPLACE) {
                readWords();
            } else if (kind == RENUMBER) {
                expect("to");
                skipBlanks();
                draft.put(SECOND, readNumber());
            } else if (kind == CHANGE) {
                expect("for");
                draft.put(SECOND, readPlain());
                expect("put");
                draft.put(NEW_WORD, readPlain());
            }
            if (kind != INSERT && kind != RENUMBER) {
                readSaving();
            }
        }

        private int readKind() {
            if (passes("insert")) {
                return INSERT;
            }
            if (passes("replace")) {
                return REPLACE;
            }
            if (passes("repeal")) {
                return REPEAL;
            }
            if (passes("renumber")) {
                return RENUMBER;
            }
            return passes("in") ? CHANGE : NONE;
        }

        /** Leaves a word beyond the limit where it is: what comes next finds its first byte out of place. */
        private void readWords() {
            for (int i = 0; i < MAX_WORDS && fault == NONE && isAtWord(); i++) {
                if (text.byteAt(place) == '@') {
                    place++;
                    draft.addWord(REFERENCE + readNumber());
                } else {
                    draft.addWord(readDigits(0));
                }
            }
        }

        private boolean isAtWord() {
            skipBlanks();
            return text.byteAt(place) == '@' || isBetween(text.byteAt(place), '0', '9');
        }

        private void readSaving() {
            skipBlanks();
            if (fault == NONE && isBetween(text.byteAt(place), 'a', 'z')) {
                expect("saving");
                draft.put(SAVING, 1);
            }
        }

        /** Returns whether another operation must follow. */
        private boolean readSemicolon() {
            skipBlanks();
            if (text.byteAt(place) == ';') {
                place++;
                return true;
            }
            if (place < text.kept()) {
                fail(place);
            }
            return false;
        }

        private int readPlain() {
            skipBlanks();
            return readDigits(0);
        }

        /** Reads a number without skipping blanks, since the one behind @ follows directly. */
        private int readNumber() {
            int code = readDigits(1) * INTEGER;
            if (isBetween(text.byteAt(place), 'A', 'Z')) {
                code += (text.byteAt(place) - 'A' + 1) * LETTER;
                place++;
                if (isBetween(text.byteAt(place), 'A', 'Z')) {
                    code += text.byteAt(place) - 'A' + 1;
                    place++;
                }
            }
            return code;
        }

        private int readDigits(int least) {
            int start = place;
            int value = 0;
            while (place < start + 3 && isBetween(text.byteAt(place), '0', '9')) {
                value = value * 10 + text.byteAt(place) - '0';
                place++;
            }
            // Too small a value is told before a fourth digit, which stands behind it.
            if (value < least) {
                fail(start);
            }
            if (place == start || isBetween(text.byteAt(place), '0', '9')) {
                fail(place);
            }
            return value;
        }

        private void expect(String word) {
            skipBlanks();
            if (!passes(word)) {
                fail(place);
            }
        }

        /** Passes a word of the grammar, if the small letters here, as many as there are, are this word. */
        private boolean passes(String word) {
            for (int i = 0; i < word.length(); i++) {
                if (text.byteAt(place + i) != word.charAt(i)) {
                    return false;
                }
            }
            if (isBetween(text.byteAt(place + word.length()), 'a', 'z')) {
                return false;
            }
            place += word.length();
            return true;
        }

        private void skipBlanks() {
            while (place < text.kept() && text.byteAt(place) == BLANK) {
                place++;
            }
        }

        private static boolean isBetween(int letter, char first, char last) {
            return letter >= first && letter <= last;
        }
    }

    /** The law that a consolidation finds, and what each operation did in it. */
    private static final class Law {
        /** 0 for a clause that is not in force. */
        private final Row codes = new Row(MAX_IDENTITIES);
        private final Row lastDays = new Row(MAX_IDENTITIES);
        private final Row lengths = new Row(MAX_IDENTITIES);
        private final Row texts = new Row(MAX_IDENTITIES * MAX_WORDS);
        private final Row order = new Row(MAX_IDENTITIES);
        private final Row statuses = new Row(MAX_OPERATIONS);
        private final Row affected = new Row(MAX_OPERATIONS);
        private final Row effects = new Row(MAX_OPERATIONS);
        private final Row resolved = new Row(MAX_WORDS);
        private int size;
        private int effectCount;

        void consolidate(Amendments book, int day, int caseDay, int revoked) {
            codes.fill(0);
            // In the full law the operations that are not carried out are just those of revoked amendments.
            statuses.fill(REVOKED);
            affected.fill(NONE);
            effectCount = 0;
            int key = nextKey(book, day, revoked, NONE);
            for (int i = 0; i < MAX_AMENDMENTS && key != NONE; i++) {
                carryOut(book, key % MAX_AMENDMENTS, caseDay);
                key = nextKey(book, day, revoked, key);
            }
            arrange();
        }

        /** Keys order the amendments by days, then by numbers. */
        private static int nextKey(Amendments book, int day, int revoked, int last) {
            int next = NONE;
            for (int a = 0; a < book.size(); a++) {
                int key = book.day(a) * MAX_AMENDMENTS + a;
                boolean due = (revoked >> a & 1) == 0 && book.day(a) <= day;
                if (due && key > last && (next == NONE || key < next)) {
                    next = key;
                }
            }
            return next;
        }

        private void carryOut(Amendments book, int amendment, int caseDay) {
            int day = book.day(amendment);
            boolean isOldCase = caseDay != NONE && caseDay < day;
            int end = book.start(amendment + 1);
            for (int op = book.start(amendment); op < end; op++) {
                if (isOldCase && book.cell(op, SAVING) == 1) {
                    continue;
                }
                int clause = holder(book.cell(op, NUMBER));
                int status = reason(book, op, clause, resolves(book, op));
                statuses.set(op, status);
                if (status == EFFECT) {
                    int changed = book.cell(op, KIND) == INSERT ? book.cell(op, IDENTITY) : clause;
                    perform(book, op, changed);
                    lastDays.set(changed, day);
                    affected.set(op, changed);
                    effects.set(effectCount, op);
                    effectCount++;
                }
            }
        }

        /** The clause in force with this number, or NONE. */
        private int holder(int code) {
            for (int identity = 0; identity < MAX_IDENTITIES; identity++) {
                if (codes.get(identity) == code) {
                    return identity;
                }
            }
            return NONE;
        }

        /** Finds what the words of an operation mean now; false if one refers to no clause in force. */
        private boolean resolves(Amendments book, int op) {
            for (int k = 0; k < book.cell(op, WORD_COUNT); k++) {
                int word = book.cell(op, WORDS + k);
                if (word >= REFERENCE) {
                    int target = holder(word - REFERENCE);
                    if (target == NONE) {
                        return false;
                    }
                    word = REFERENCE + target;
                }
                resolved.set(k, word);
            }
            return true;
        }

        private int reason(Amendments book, int op, int clause, boolean resolves) {
            int kind = book.cell(op, KIND);
            if (kind != INSERT && clause == NONE) {
                return NO_CLAUSE;
            }
            if (kind == INSERT && clause != NONE) {
                return TAKEN;
            }
            if (kind == RENUMBER && holder(book.cell(op, SECOND)) != NONE) {
                return TAKEN;
            }
            if (kind == CHANGE && !contains(clause, book.cell(op, SECOND))) {
                return NO_WORD;
            }
            return resolves ? EFFECT : NO_TARGET;
        }

        private void perform(Amendments book, int op, int clause) {
            switch (book.cell(op, KIND)) {
                case INSERT:
                    codes.set(clause, book.cell(op, NUMBER));
                    setText(clause, book.cell(op, WORD_COUNT));
                    break;
                case REPLACE:
                    setText(clause, book.cell(op, WORD_COUNT));
                    break;
                case REPEAL:
                    codes.set(clause, 0);
                    break;
                case RENUMBER:
                    codes.set(clause, book.cell(op, SECOND));
                    break;
                default:
                    change(clause, book.cell(op, SECOND), book.cell(op, NEW_WORD));
                    break;
            }
        }

        private void setText(int clause, int length) {
            lengths.set(clause, length);
            texts.take(resolved, 0, clause * MAX_WORDS, length);
        }

        private void change(int clause, int oldWord, int newWord) {
            int start = clause * MAX_WORDS;
            int end = start + lengths.get(clause);
            for (int i = start; i < end; i++) {
                if (texts.get(i) == oldWord) {
                    texts.set(i, newWord);
                }
            }
        }

        private void arrange() {
            size = 0;
            for (int identity = 0; identity < MAX_IDENTITIES; identity++) {
                int code = codes.get(identity);
                if (code != 0) {
                    int place = size;
                    while (place > 0 && codes.get(order.get(place - 1)) > code) {
                        order.set(place, order.get(place - 1));
                        place--;
                    }
                    order.set(place, identity);
                    size++;
                }
            }
        }

        int size() {
            return size;
        }

        /** The identity of a clause in force, by its place in the order of codes. */
        int at(int i) {
            return order.get(i);
        }

        int code(int identity) {
            return codes.get(identity);
        }

        int lastDay(int identity) {
            return lastDays.get(identity);
        }

        int length(int identity) {
            return lengths.get(identity);
        }

        /** A plain word, or 1000 + the identity of the clause that is referred to. */
        int said(int identity, int k) {
            return texts.get(identity * MAX_WORDS + k);
        }

        /** The identity of the clause that a word refers to, or NONE for a plain word. */
        int target(int identity, int k) {
            int said = said(identity, k);
            return said >= REFERENCE ? said - REFERENCE : NONE;
        }

        int indexOf(int code) {
            for (int i = 0; i < size; i++) {
                if (code(at(i)) == code) {
                    return i;
                }
            }
            return NONE;
        }

        boolean contains(int identity, int word) {
            int start = identity * MAX_WORDS;
            int end = start + lengths.get(identity);
            for (int i = start; i < end; i++) {
                if (texts.get(i) == word) {
                    return true;
                }
            }
            return false;
        }

        int clausesWith(int word) {
            int number = 0;
            for (int i = 0; i < size; i++) {
                if (contains(at(i), word)) {
                    number++;
                }
            }
            return number;
        }

        boolean saysTheSame(Law other, int identity) {
            if (length(identity) != other.length(identity)) {
                return false;
            }
            for (int k = 0; k < length(identity); k++) {
                if (said(identity, k) != other.said(identity, k)) {
                    return false;
                }
            }
            return true;
        }

        int status(int op) {
            return statuses.get(op);
        }

        /** The identity of the clause on which an operation has an effect, or NONE. */
        int affected(int op) {
            return affected.get(op);
        }

        int effective(int start, int end) {
            int number = 0;
            for (int op = start; op < end; op++) {
                if (status(op) == EFFECT) {
                    number++;
                }
            }
            return number;
        }

        /** The operation with the effect number k on a clause, or NONE. */
        int effectOn(int identity, int k) {
            int seen = 0;
            for (int i = 0; i < effectCount; i++) {
                int op = effects.get(i);
                if (affected(op) == identity) {
                    if (seen == k) {
                        return op;
                    }
                    seen++;
                }
            }
            return NONE;
        }
    }

    /** Follows references, the nearest clauses first. */
    private static final class Walk {
        private final Row distances = new Row(MAX_IDENTITIES);
        private final Row queue = new Row(MAX_IDENTITIES);
        private int reached;
        private boolean comesBack;

        void follow(Law law, int first) {
            distances.fill(NONE);
            reached = 0;
            comesBack = false;
            meet(first, 0);
            for (int i = 0; i < reached && i < MAX_IDENTITIES; i++) {
                int clause = queue.get(i);
                for (int k = 0; k < law.length(clause); k++) {
                    int target = law.target(clause, k);
                    if (target == first) {
                        comesBack = true;
                    }
                    if (target != NONE && law.code(target) != 0) {
                        meet(target, distances.get(clause) + 1);
                    }
                }
            }
        }

        private void meet(int clause, int distance) {
            if (distances.get(clause) == NONE) {
                distances.set(clause, distance);
                queue.set(reached, clause);
                reached++;
            }
        }

        int reached() {
            return reached;
        }

        /** No clause is met before a nearer one, so the last one is the farthest. */
        int greatestDistance() {
            return distances.get(queue.get(reached - 1));
        }

        boolean comesBack() {
            return comesBack;
        }
    }
}
