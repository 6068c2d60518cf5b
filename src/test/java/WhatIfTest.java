/** Promises 25 to 28: effect, fewestRevocations, between, tidy. */
public final class WhatIfTest {
    private static final Check CHECK = new Check("WhatIfTest");

    public static void main(String[] args) {
        effect();
        effectOnOneProperty();
        savingIsPlain();
        fewestRevocations();
        fewestOfSeveral();
        noSet();
        between();
        betweenLetters();
        tidy();
        tidyOrder();
        tidyLimits();
        CHECK.end();
    }

    private static void effect() {
        StatuteBook book = Check.bookOf("1 insert 1 5;insert 2 @1;insert 3", "2 renumber 1 to 7;in 7 for 5 put 6",
                "3 repeal 2;insert 8", "4 repeal 3");
        CHECK.due("effect 0", book.effect(0, 1), 3);
        CHECK.due("effect 0 before", book.effect(0, 0), 0);
        CHECK.due("effect 1: code and text of one", book.effect(1, 2), 1);
        CHECK.due("effect 2", book.effect(2, 3), 2);
        CHECK.due("effect 0 at the end", book.effect(0, 9999), 1);
        CHECK.due("effect of a later one", book.effect(3, 3), 0);
        book.revoke(3, true);
        CHECK.due("effect to reinstate", book.effect(3, 4), 1);
        CHECK.due("nothing was changed", book.amendment(3, 1), 1);
        CHECK.due("states", book.count(3), 5);
        CHECK.due("amendment -1", book.effect(-1, 1), -2);
        CHECK.due("amendment 4", book.effect(4, 1), -2);
        CHECK.due("day -1", book.effect(0, -1), -2);
        CHECK.due("day 10000", book.effect(0, 10000), -2);
    }

    private static void effectOnOneProperty() {
        StatuteBook book = Check.bookOf("1 insert 1 5;insert 2 5;insert 3 @1", "2 renumber 1 to 4",
                "3 replace 2 6", "4 in 2 for 6 put 6", "5 insert 8;repeal 8", "6 replace 3 @2");
        CHECK.due("another code", book.effect(1, 2), 1);
        CHECK.due("another word", book.effect(2, 3), 1);
        CHECK.due("the same word", book.effect(3, 4), 0);
        CHECK.due("a clause that comes and goes", book.effect(4, 5), 0);
        CHECK.due("another reference", book.effect(5, 6), 1);
        CHECK.due("only before that", book.effect(0, 1), 3);
        book.revoke(0, true);
        CHECK.due("only after that", book.effect(0, 1), 3);
    }

    /** The plain law carries out what is saving too. */
    private static void savingIsPlain() {
        StatuteBook book = Check.bookOf("1 insert 1 5;insert 2 5;insert 4",
                "2 in 1 for 5 put 6 saving;repeal 2 saving");
        CHECK.due("effect of saving operations", book.effect(1, 2), 2);
        CHECK.due("effect under saving operations", book.effect(0, 2), 2);
        CHECK.due("word that is repealed", book.fewestRevocations(2, 5), 0);
        CHECK.due("word that is put", book.fewestRevocations(2, 6), 1);
        CHECK.due("number that is free again", book.between(2, Check.code("1")), Check.code("2"));
        CHECK.due("clause that is repealed", book.between(2, Check.code("2")), -3);
        CHECK.due("tidy", book.tidy(2), 2);
        CHECK.due("its operations", book.amendment(2, 2), 1);
        CHECK.due("its number", book.operation(2, 0, 2), Check.code("2"));
    }

    private static void fewestRevocations() {
        StatuteBook book = Check.bookOf("1 insert 1 5", "2 insert 2 5", "3 in 1 for 5 put 6", "4 in 2 for 5 put 6");
        CHECK.due("word that is not there", book.fewestRevocations(4, 5), 0);
        CHECK.due("one", book.fewestRevocations(1, 5), 1);
        CHECK.due("two", book.fewestRevocations(2, 5), 3);
        CHECK.due("the smallest pair", book.fewestRevocations(4, 6), 3);
        book.revoke(1, true);
        CHECK.due("only further ones count", book.fewestRevocations(4, 6), 1);
        CHECK.due("nothing was changed", book.count(6), 1);
        CHECK.due("states", book.count(3), 5);
        CHECK.due("day 0", book.fewestRevocations(0, 5), 0);
        CHECK.due("day -1", book.fewestRevocations(-1, 5), -2);
        CHECK.due("day 10000", book.fewestRevocations(10000, 5), -2);
        CHECK.due("word -1", book.fewestRevocations(0, -1), -2);
        CHECK.due("word 1000", book.fewestRevocations(0, 1000), -2);
    }

    private static void fewestOfSeveral() {
        StatuteBook book = Check.bookOf("1 insert 1", "1 insert 2", "2 replace 1 9", "2 replace 2 9");
        CHECK.due("the smallest pair", book.fewestRevocations(2, 9), 3);
        StatuteBook chain = Check.bookOf("1 insert 1;insert 2 9", "2 insert 3", "3 replace 1 9;replace 2 9",
                "4 replace 3 9", "5 repeal 2");
        CHECK.due("a pair without the first", chain.fewestRevocations(5, 9), 3);
        CHECK.due("of day 3", chain.fewestRevocations(3, 9), 1);
        StatuteBook later = Check.bookOf("1 insert 1 5;insert 2", "2 replace 2 9", "2 in 1 for 5 put 9");
        CHECK.due("one instead of two", later.fewestRevocations(2, 9), 1);
        StatuteBook revived = Check.bookOf("1 insert 1 9", "2 repeal 1", "3 insert 1 9");
        CHECK.due("the last one alone", revived.fewestRevocations(3, 9), 4);
        StatuteBook hidden = Check.bookOf("1 insert 1 9", "2 replace 1 8", "3 in 1 for 8 put 9");
        CHECK.due("to revoke the first", hidden.fewestRevocations(3, 9), 1);
        StatuteBook pairs = Check.bookOf("1 insert 1 9", "2 insert 1 9;insert 2", "3 insert 1 9;insert 3 9");
        CHECK.due("NONE with three sources", pairs.fewestRevocations(3, 9), -1);
        StatuteBook high = Check.bookOf("1 insert 1", "2 insert 2 9", "3 insert 3", "4 replace 1 9", "5 replace 3 9");
        CHECK.due("three that are needed", high.fewestRevocations(5, 9), -1);
        high.revoke(1, true);
        CHECK.due("and two of them", high.fewestRevocations(5, 9), 1 | 4);
    }

    private static void noSet() {
        StatuteBook book = Check.bookOf("1 insert 1 5", "1 insert 2 5", "1 insert 3 5");
        CHECK.due("three clauses", book.fewestRevocations(1, 5), -1);
        book.revoke(2, true);
        CHECK.due("two clauses", book.fewestRevocations(1, 5), 3);
        book.revoke(0, true);
        CHECK.due("one clause", book.fewestRevocations(1, 5), 2);
    }

    private static void dueBetween(StatuteBook book, String number, String want) {
        CHECK.due("between " + number, book.between(1, Check.code(number)), want.isEmpty() ? -1 : Check.code(want));
    }

    private static void between() {
        StatuteBook book = Check.bookOf("1 insert 1;insert 3;insert 4;insert 4B;insert 4BA;insert 998ZZ;insert 999");
        dueBetween(book, "1", "2");
        dueBetween(book, "3", "3A");
        dueBetween(book, "4", "4A");
        dueBetween(book, "4B", "");
        dueBetween(book, "4BA", "5");
        dueBetween(book, "998ZZ", "");
        dueBetween(book, "999", "999A");
        CHECK.due("no clause", book.between(1, Check.code("2")), -3);
        CHECK.due("no clause on day 0", book.between(0, Check.code("1")), -3);
        CHECK.due("no code", book.between(1, 730), -2);
        CHECK.due("code 0", book.between(1, 0), -2);
        CHECK.due("code 729000", book.between(1, 729000), -2);
        CHECK.due("day -1", book.between(-1, 729), -2);
        CHECK.due("day 10000", book.between(10000, 729), -2);
    }

    private static void betweenLetters() {
        StatuteBook book = Check.bookOf("1 insert 1;insert 1A;insert 1B;insert 1BZ;insert 1C;insert 1CB;insert 1CD",
                "1 insert 1Y;insert 1Z;insert 1ZY;insert 1ZZ;insert 2;insert 2AA;insert 2B;insert 999Z");
        dueBetween(book, "1", "");
        dueBetween(book, "1A", "1AA");
        dueBetween(book, "1B", "1BA");
        dueBetween(book, "1BZ", "");
        dueBetween(book, "1C", "1CA");
        dueBetween(book, "1CB", "1CC");
        dueBetween(book, "1CD", "1D");
        dueBetween(book, "1Y", "1YA");
        dueBetween(book, "1Z", "1ZA");
        dueBetween(book, "1ZY", "");
        dueBetween(book, "1ZZ", "");
        dueBetween(book, "2", "2A");
        dueBetween(book, "2AA", "2AB");
        dueBetween(book, "2B", "3");
        dueBetween(book, "999Z", "999ZA");
        StatuteBook end = Check.bookOf("1 insert 999ZZ");
        dueBetween(end, "999ZZ", "");
    }

    private static void tidy() {
        StatuteBook book = Check.bookOf("1 insert 3 5;insert 5 @3;insert 5A @5;insert 9ZZ");
        Check.type(book, "abc");
        CHECK.due("tidy -1", book.tidy(-1), -2);
        CHECK.due("tidy 10000", book.tidy(10000), -2);
        CHECK.due("tidy without clauses", book.tidy(0), -3);
        CHECK.due("tidy", book.tidy(4), 1);
        CHECK.dueLaw(book, 3, -1, "3 5/5 @3/5A @5/9ZZ/");
        CHECK.dueLaw(book, 4, -1, "1 5/2 @1/3 @2/4/");
        CHECK.due("the text stays", book.count(4), 3);
        CHECK.due("day", book.amendment(1, 0), 4);
        CHECK.due("states", book.count(3), 2);
        CHECK.due("tidy again", book.tidy(4), -3);
        CHECK.due("states", book.count(3), 2);
        CHECK.due("tidy of an earlier day", book.tidy(2), 2);
        CHECK.due("then the later one has no effect", book.amendment(1, 3), 0);
        CHECK.due("undo", book.undo(), 2);
        CHECK.due("amendments", book.count(0), 2);
    }

    private static void tidyOrder() {
        StatuteBook book = Check.bookOf("1 insert 1;insert 1A;insert 2;insert 3;insert 5;insert 8;insert 10");
        CHECK.due("tidy", book.tidy(1), 1);
        String[][] want = {{"3", "4"}, {"2", "3"}, {"1A", "2"}, {"8", "6"}, {"10", "7"}};
        CHECK.due("operations", book.amendment(1, 2), want.length);
        for (int i = 0; i < want.length; i++) {
            CHECK.due("kind", book.operation(1, i, 0), 3);
            CHECK.due("number " + i, book.operation(1, i, 1), Check.code(want[i][0]));
            CHECK.due("new number " + i, book.operation(1, i, 2), Check.code(want[i][1]));
            CHECK.due("no new word " + i, book.operation(1, i, 3), -1);
            CHECK.due("not saving " + i, book.operation(1, i, 4), 0);
            CHECK.due("no words " + i, book.operation(1, i, 5), 0);
            CHECK.due("status " + i, book.operation(1, i, 6), 0);
            CHECK.due("no identity " + i, book.operation(1, i, 8), -1);
        }
    }

    private static void tidyLimits() {
        StatuteBook book = new StatuteBook();
        for (int i = 0; i < 10; i++) {
            String tens = ";insert " + (i + 1);
            Check.enact(book, ("insert " + (i + 1) + "A" + tens + "B" + tens + "C" + tens + "D"), 1);
        }
        CHECK.due("40 operations at once", book.tidy(9), 10);
        CHECK.due("operations", book.amendment(10, 2), 40);
        CHECK.due("effective", book.amendment(10, 3), 40);
        CHECK.due("120 operations", book.tidy(8), 11);
        CHECK.due("160 operations", book.tidy(7), -4);
        CHECK.due("STATE comes before FULL", book.tidy(9), -3);
        CHECK.due("BAD comes before STATE", book.tidy(-1), -2);
        CHECK.due("operations", book.count(1), 120);
        StatuteBook many = Check.bookOf("1 insert 2");
        for (int i = 1; i < 20; i++) {
            CHECK.due("tidy " + i, many.tidy(100 - i), i);
        }
        CHECK.due("amendment 20", many.tidy(5), -4);
    }
}
