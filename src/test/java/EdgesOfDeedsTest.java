import java.util.function.BooleanSupplier;

/**
 * The boundary cases that the document names of deeds: promises 8 to 14, with the Terms 3 that they stand on. A test
 * each, named after the promise and the case; answers worked out by hand from the document's sentences.
 */
public final class EdgesOfDeedsTest {
    private static final Check CHECK = new Check();
    private static final int MIN = Integer.MIN_VALUE;
    private static final int MAX = Integer.MAX_VALUE;

    private EdgesOfDeedsTest() {
    }

    public static void main(String[] args) {
        Check.cases(EdgesOfDeedsTest.class, CHECK);
    }

    private static void is(String call, long got, long due) {
        CHECK.is(call, got, due);
    }

    private static void yes(String call, boolean got) {
        CHECK.yes(call, got);
    }

    private static CoverDesk small() {
        return Check.desk("limit 100; grace 3; person p; person q; bank b; bank c; bank d;"
                + "single s at b of p 10; joint j at c of p q 21; loan q at c 30; loan p at b 5;");
    }

    /** Each of these calls is REFUSED, and all of them change nothing; at most twice for one desk, for its 512 calls. */
    private static void refused(CoverDesk d, BooleanSupplier... calls) {
        Shown before = new Shown(d);
        for (int i = 0; i < calls.length; i++) {
            CHECK.no("call " + i, calls[i].getAsBoolean());
        }
        CHECK.same("what was REFUSED", d, before);
    }

    // ---- promise 8: put ----

    static void promise8PutOf0CoinsOrLess() {
        CoverDesk d = small();
        refused(d, () -> d.put(0, 0), () -> d.put(0, -1), () -> d.put(0, -2), () -> d.put(0, MIN), () -> d.put(1, -100000000));
        yes("1", d.put(0, 1));
        is("COINS", d.account(0, 4), 11);
        yes("2", d.put(0, 2));
        is("COINS", d.account(0, 4), 13);
    }

    static void promise8PutOfMoreThan100000000() {
        CoverDesk d = Check.desk("person p; bank b; single s at b of p 0;");
        refused(d, () -> d.put(0, 100000001), () -> d.put(0, MAX), () -> d.put(0, MAX - 1));
        yes("100000000", d.put(0, 100000000));
        is("COINS", d.account(0, 4), 100000000);
        refused(d, () -> d.put(0, 1), () -> d.put(0, 100000000), () -> d.put(0, MAX));
    }

    static void promise8PutUpTo100000000() {
        CoverDesk d = small();
        refused(d, () -> d.put(0, 99999991), () -> d.put(0, 100000000));
        yes("one below", d.put(0, 99999989));
        is("COINS", d.account(0, 4), 99999999);
        refused(d, () -> d.put(0, 2));
        yes("the last one", d.put(0, 1));
        is("COINS", d.account(0, 4), 100000000);
    }

    static void promise8PutOnNoSuchAccount() {
        CoverDesk d = small();
        refused(d, () -> d.put(2, 1), () -> d.put(-1, 1), () -> d.put(-2, 1), () -> d.put(24, 1), () -> d.put(MIN, 1),
                () -> d.put(MAX, 1));
        yes("the last one", d.put(1, 1));
        is("COINS", d.account(1, 4), 22);
    }

    static void promise8PutAtABankThatFailed() {
        CoverDesk d = small();
        d.fail(0, 0);
        refused(d, () -> d.put(0, 1), () -> d.put(0, 100000000));
        yes("at another one", d.put(1, 1));
    }

    static void promise8PutAtABankMergedIntoOneThatFailed() {
        CoverDesk d = small();
        d.merge(0, 1);
        yes("at a MERGED one", d.put(0, 1));
        d.merge(1, 2);
        yes("at one MERGED twice", d.put(0, 1));
        is("COINS", d.account(0, 4), 12);
        d.fail(2, 0);
        refused(d, () -> d.put(0, 1), () -> d.put(1, 1));
        d.undo();
        yes("as if it had not FAILED", d.put(0, 1));
    }

    static void promise8PutRefusedIsNotToBeUndone() {
        CoverDesk d = small();
        d.put(0, 5);
        d.put(0, 0);
        d.put(9, 1);
        is("one", d.look(7), 1);
        yes("undo", d.undo());
        is("COINS", d.account(0, 4), 10);
        CHECK.no("no more", d.undo());
    }

    // ---- promise 9: take ----

    static void promise9TakeOf0CoinsOrLess() {
        CoverDesk d = small();
        refused(d, () -> d.take(0, 0), () -> d.take(0, -1), () -> d.take(0, -2), () -> d.take(0, MIN));
        yes("1", d.take(0, 1));
        is("COINS", d.account(0, 4), 9);
    }

    static void promise9TakeOfMoreThanItHas() {
        CoverDesk d = small();
        refused(d, () -> d.take(0, 11), () -> d.take(0, 100000000), () -> d.take(1, 22));
        yes("one below", d.take(0, 9));
        CHECK.no("2 of 1", d.take(0, 2));
        yes("the last one", d.take(0, 1));
        is("COINS", d.account(0, 4), 0);
    }

    static void promise9TakeOf1From0() {
        CoverDesk d = Check.desk("person p; bank b; single s at b of p 0;");
        refused(d, () -> d.take(0, 1), () -> d.take(0, 2), () -> d.take(0, 100000000));
        yes("put", d.put(0, 1));
        yes("1 of 1", d.take(0, 1));
        CHECK.no("1 of 0 again", d.take(0, 1));
    }

    static void promise9TakeOfAllAtOnce() {
        CoverDesk d = small();
        yes("as many as it has", d.take(1, 21));
        is("COINS", d.account(1, 4), 0);
        is("SHARE", d.owner(1, 0, 1), 0);
    }

    static void promise9TakeOfMoreThan100000000() {
        CoverDesk d = Check.desk("person p; bank b; single s at b of p 100000000;");
        refused(d, () -> d.take(0, 100000001), () -> d.take(0, MAX));
        yes("100000000", d.take(0, 100000000));
        is("COINS", d.account(0, 4), 0);
    }

    static void promise9TakeFromNoSuchAccount() {
        CoverDesk d = small();
        refused(d, () -> d.take(2, 1), () -> d.take(-1, 1), () -> d.take(-2, 1), () -> d.take(24, 1), () -> d.take(MIN, 1),
                () -> d.take(MAX, 1));
        yes("the last one", d.take(1, 1));
    }

    static void promise9TakeAtABankThatFailed() {
        CoverDesk d = small();
        d.fail(0, 100);
        refused(d, () -> d.take(0, 1), () -> d.take(0, 10));
        yes("at another one", d.take(1, 21));
    }

    static void promise9TakeAtAMergedBank() {
        CoverDesk d = small();
        d.merge(0, 1);
        yes("all", d.take(0, 10));
        is("COINS", d.account(0, 4), 0);
    }

    static void promise9TakeRefusedIsNotToBeUndone() {
        CoverDesk d = small();
        d.take(0, 4);
        d.take(0, 7);
        is("one", d.look(7), 1);
        yes("undo", d.undo());
        is("COINS", d.account(0, 4), 10);
        CHECK.no("no more", d.undo());
    }

    // ---- promise 10: merge ----

    static void promise10MergeOfNoSuchBank() {
        CoverDesk d = small();
        refused(d, () -> d.merge(3, 0), () -> d.merge(-1, 0), () -> d.merge(-2, 0), () -> d.merge(6, 0), () -> d.merge(MIN, 0),
                () -> d.merge(MAX, 0), () -> d.merge(-1, -1), () -> d.merge(MAX, MIN));
        yes("the last one", d.merge(2, 0));
    }

    static void promise10MergeIntoNoSuchBank() {
        CoverDesk d = small();
        refused(d, () -> d.merge(0, 3), () -> d.merge(0, -1), () -> d.merge(0, -2), () -> d.merge(0, 6), () -> d.merge(0, MIN),
                () -> d.merge(0, MAX));
        yes("the last one", d.merge(0, 2));
        is("INTO", d.bank(0, 0), 2);
    }

    static void promise10MergeOfTheLastBankOfSix() {
        CoverDesk d = Check.desk("bank k;bank l;bank m;bank n;bank o;bank r;");
        yes("5 INTO 0", d.merge(5, 0));
        yes("0 INTO 4", d.merge(0, 4));
        CHECK.no("6", d.merge(6, 4));
        is("INTO", d.bank(5, 0), 0);
    }

    static void promise10MergeIntoItself() {
        CoverDesk d = small();
        refused(d, () -> d.merge(0, 0), () -> d.merge(1, 1), () -> d.merge(2, 2));
    }

    static void promise10MergeOfAMergedBank() {
        CoverDesk d = small();
        yes("b INTO c", d.merge(0, 1));
        refused(d, () -> d.merge(0, 1), () -> d.merge(0, 2));
    }

    static void promise10MergeIntoAMergedBank() {
        CoverDesk d = small();
        d.merge(0, 1);
        refused(d, () -> d.merge(2, 0), () -> d.merge(1, 0));
        yes("c INTO d", d.merge(1, 2));
        refused(d, () -> d.merge(2, 0), () -> d.merge(2, 1));
        is("NOW AT", d.account(0, 2), 2);
    }

    static void promise10MergeOfABankThatFailed() {
        CoverDesk d = small();
        d.fail(0, 0);
        refused(d, () -> d.merge(0, 1), () -> d.merge(0, 2));
        yes("of others", d.merge(1, 2));
    }

    static void promise10MergeIntoABankThatFailed() {
        CoverDesk d = small();
        d.fail(0, 0);
        refused(d, () -> d.merge(1, 0), () -> d.merge(2, 0));
        d.undo();
        yes("as if it had not FAILED", d.merge(1, 0));
    }

    static void promise10MergeInTheFirstAndTheLastMonth() {
        CoverDesk d = small();
        d.merge(0, 1);
        is("0", d.bank(0, 1), 0);
        Check.pass(d, 999);
        yes("in MONTH 999", d.merge(1, 2));
        is("999", d.bank(1, 1), 999);
    }

    static void promise10MergeRefusedIsNotToBeUndone() {
        CoverDesk d = small();
        d.merge(0, 1);
        d.merge(0, 2);
        d.merge(2, 2);
        is("one", d.look(7), 1);
        yes("undo", d.undo());
        is("INTO", d.bank(0, 0), -1);
    }

    // ---- promise 11: months ----

    static void promise11MonthsFrom1To99() {
        CoverDesk d = small();
        refused(d, () -> d.months(0), () -> d.months(-1), () -> d.months(-2), () -> d.months(100), () -> d.months(MIN),
                () -> d.months(MAX));
        yes("1", d.months(1));
        is("MONTH", d.look(4), 1);
        yes("99", d.months(99));
        is("MONTH", d.look(4), 100);
        yes("98", d.months(98));
        yes("2", d.months(2));
        is("MONTH", d.look(4), 200);
    }

    static void promise11MonthsUpTo999() {
        CoverDesk d = small();
        Check.pass(d, 900);
        yes("999 by 99", d.months(99));
        is("MONTH", d.look(4), 999);
        refused(d, () -> d.months(1), () -> d.months(99), () -> d.months(MAX));
    }

    static void promise11MonthsAbove999() {
        CoverDesk d = small();
        Check.pass(d, 901);
        refused(d, () -> d.months(99));
        yes("999 by 98", d.months(98));
        d.undo();
        yes("998 by 97", d.months(97));
        refused(d, () -> d.months(2));
        yes("999 by 1", d.months(1));
        is("MONTH", d.look(4), 999);
    }

    static void promise11MonthsRefusedIsNotToBeUndone() {
        CoverDesk d = small();
        d.months(5);
        d.months(0);
        d.months(100);
        is("one", d.look(7), 1);
        yes("undo", d.undo());
        is("MONTH", d.look(4), 0);
    }

    // ---- promise 12: pay ----

    static void promise12PayOf0CoinsOrLess() {
        CoverDesk d = small();
        refused(d, () -> d.pay(0, 0), () -> d.pay(0, -1), () -> d.pay(0, -2), () -> d.pay(0, MIN));
        yes("1", d.pay(0, 1));
        is("LOAN", d.loan(0, 2), 29);
    }

    static void promise12PayOfMoreThanItIs() {
        CoverDesk d = small();
        refused(d, () -> d.pay(0, 31), () -> d.pay(1, 6), () -> d.pay(0, 100000000));
        yes("one below", d.pay(0, 29));
        CHECK.no("2 of 1", d.pay(0, 2));
        yes("the last one", d.pay(0, 1));
        is("LOAN", d.loan(0, 2), 0);
    }

    static void promise12PayOfALoanOf0() {
        CoverDesk d = small();
        yes("all at once", d.pay(1, 5));
        is("LOAN", d.loan(1, 2), 0);
        refused(d, () -> d.pay(1, 1), () -> d.pay(1, 5), () -> d.pay(1, 100000000));
    }

    static void promise12PayOfMoreThan100000000() {
        CoverDesk d = Check.desk("person p; bank b; loan p at b 100000000;");
        refused(d, () -> d.pay(0, 100000001), () -> d.pay(0, MAX));
        yes("100000000", d.pay(0, 100000000));
        is("LOAN", d.loan(0, 2), 0);
    }

    static void promise12PayOfNoSuchLoan() {
        CoverDesk d = small();
        refused(d, () -> d.pay(2, 1), () -> d.pay(-1, 1), () -> d.pay(-2, 1), () -> d.pay(10, 1), () -> d.pay(MIN, 1),
                () -> d.pay(MAX, 1));
        yes("the last one", d.pay(1, 1));
        CoverDesk ten = Check.desk("person p;bank b;" + "loan p at b5;".repeat(10));
        yes("LOAN 9", ten.pay(9, 5));
        CHECK.no("LOAN 10", ten.pay(10, 5));
    }

    static void promise12PayOfALoanThatWasSetOff() {
        CoverDesk d = small();
        d.fail(0, 0);
        refused(d, () -> d.pay(1, 1));
        d.fail(1, 0);
        // 30 less the 10 of q
        is("LOAN", d.loan(0, 2), 20);
        refused(d, () -> d.pay(0, 21));
        yes("what was not SET OFF", d.pay(0, 20));
    }

    static void promise12PayRefusedIsNotToBeUndone() {
        CoverDesk d = small();
        d.pay(0, 4);
        d.pay(0, 27);
        is("one", d.look(7), 1);
        yes("undo", d.undo());
        is("LOAN", d.loan(0, 2), 30);
    }

    // ---- promise 13: fail ----

    static void promise13FailWithAnEstateFrom0To100000000() {
        CoverDesk d = small();
        refused(d, () -> d.fail(0, -1), () -> d.fail(0, -2), () -> d.fail(0, MIN), () -> d.fail(0, 100000001),
                () -> d.fail(0, MAX));
        yes("0", d.fail(0, 0));
        d.undo();
        yes("1", d.fail(0, 1));
        d.undo();
        yes("100000000", d.fail(0, 100000000));
        is("FAILED", d.bank(0, 2), 1);
    }

    static void promise13FailOfNoSuchBank() {
        CoverDesk d = small();
        refused(d, () -> d.fail(3, 0), () -> d.fail(-1, 0), () -> d.fail(-2, 0), () -> d.fail(6, 0), () -> d.fail(MIN, 0),
                () -> d.fail(MAX, 0));
        yes("the last one", d.fail(2, 0));
        is("which", d.total(0), 2);
    }

    static void promise13FailOfAMergedBank() {
        CoverDesk d = small();
        d.merge(0, 1);
        refused(d, () -> d.fail(0, 0), () -> d.fail(0, 100));
        yes("the one INTO which", d.fail(1, 0));
        is("what was told at the MERGED one, too", d.account(0, 4), 0);
        is("the MERGED one has not FAILED", d.bank(0, 2), 0);
    }

    static void promise13FailOfABankThatFailed() {
        CoverDesk d = small();
        d.fail(0, 7);
        refused(d, () -> d.fail(0, 0), () -> d.fail(0, 7), () -> d.fail(0, 100000000));
        yes("another one", d.fail(1, 0));
        refused(d, () -> d.fail(0, 0), () -> d.fail(1, 0));
    }

    static void promise13FailOfABankWithoutAccounts() {
        CoverDesk d = small();
        yes("d", d.fail(2, 5));
        int[] due = {2, 0, 0, 0, 0, 0};
        for (int what = 0; what < 6; what++) {
            is("total(" + what + ")", d.total(what), due[what]);
        }
        is("others stay", d.account(0, 4), 10);
        is("LOANS stay", d.loan(1, 2), 5);
    }

    static void promise13FailLeaves0CoinsThereAlone() {
        CoverDesk d = small();
        d.fail(1, 0);
        is("there", d.account(1, 4), 0);
        is("SHARE", d.owner(1, 0, 1), 0);
        is("elsewhere", d.account(0, 4), 10);
        is("what was not SET OFF", d.loan(0, 2), 20);
        is("a LOAN elsewhere", d.loan(1, 2), 5);
        is("not FAILED", d.bank(0, 2), 0);
    }

    static void promise13FailRefusedIsNotToBeUndone() {
        CoverDesk d = small();
        d.fail(0, 3);
        d.fail(0, 4);
        d.fail(1, -1);
        is("one", d.look(7), 1);
        yes("undo", d.undo());
        is("not FAILED", d.bank(0, 2), 0);
        is("none failed yet", d.total(0), -1);
        CHECK.no("no more", d.undo());
    }

    // ---- promise 14: undo ----

    static void promise14UndoOfNothing() {
        CoverDesk d = small();
        refused(d, d::undo, d::undo);
        yes("and then", d.put(0, 1));
        yes("of one", d.undo());
        refused(d, d::undo);
    }

    /** As many deeds, each of one coin on s; then all that can be undone is undone. */
    private static void undone(int deeds, int due) {
        CoverDesk d = small();
        for (int i = 0; i < deeds; i++) {
            d.put(0, 1);
        }
        is("after " + deeds, d.look(7), due);
        for (int i = 1; i <= due; i++) {
            yes("undo " + i, d.undo());
            is("COINS", d.account(0, 4), 10 + deeds - i);
            is("left", d.look(7), due - i);
        }
        CHECK.no("no more", d.undo());
        is("COINS", d.account(0, 4), 10 + deeds - due);
    }

    static void promise14UndoOf5() {
        undone(5, 5);
    }

    static void promise14UndoOf6() {
        undone(6, 6);
    }

    static void promise14UndoOf7() {
        undone(7, 6);
    }

    static void promise14UndoOf20() {
        undone(20, 6);
    }

    static void promise14UndoAndOnAgain() {
        CoverDesk d = small();
        for (int i = 0; i < 8; i++) {
            d.put(0, 1);
        }
        d.undo();
        d.undo();
        d.put(0, 100);
        is("four and one", d.look(7), 5);
        d.put(0, 1000);
        is("six again", d.look(7), 6);
        d.put(0, 10000);
        is("six at most", d.look(7), 6);
        int[] due = {1116, 116, 16, 15, 14, 13};
        for (int coins : due) {
            yes("undo", d.undo());
            is("COINS", d.account(0, 4), coins);
        }
        CHECK.no("no more", d.undo());
    }

    static void promise14UndoOfEachDeed() {
        CoverDesk d = small();
        Shown before = new Shown(d);
        BooleanSupplier[] deeds = {() -> d.put(0, 3), () -> d.take(1, 3), () -> d.merge(0, 1), () -> d.months(7),
            () -> d.pay(0, 9), () -> d.fail(1, 6)};
        for (BooleanSupplier deed : deeds) {
            yes("done", deed.getAsBoolean());
        }
        for (int i = 0; i < 6; i++) {
            yes("undone", d.undo());
        }
        CHECK.same("all done and undone", d, before);
    }

    static void promise14UndoOfAFailing() {
        CoverDesk d = small();
        d.months(1);
        Shown before = new Shown(d);
        yes("fail", d.fail(1, 6));
        yes("undo", d.undo());
        CHECK.same("a failing undone", d, before);
    }

    static void promise14UndoOfWhatTheLatestFailingBrought() {
        CoverDesk d = small();
        d.fail(0, 0);
        Shown before = new Shown(d);
        is("the first", d.total(0), 0);
        d.fail(1, 3);
        is("the second", d.total(0), 1);
        is("not NOW AT that one", d.came(0, 0, 0), -1);
        yes("undo", d.undo());
        CHECK.same("the second undone", d, before);
        is("SET OFF of the first", d.came(0, 0, 0), 5);
    }

    static void promise14UndoOfADayIsOne() {
        CoverDesk d = small();
        Shown before = new Shown(d);
        is("six DEEDS", Check.day(d, "put 3 s; take 1 j; merge b into c; months 5; pay 0 9; fail c 6;"), 6);
        is("one", d.look(7), 1);
        yes("undo", d.undo());
        CHECK.same("a DAY undone", d, before);
    }

    static void promise14UndoOfADayThatDidOne() {
        CoverDesk d = small();
        is("one", Check.day(d, "put 3 s; put 0 s;"), 1);
        is("to undo", d.look(7), 1);
        yes("undo", d.undo());
        is("COINS", d.account(0, 4), 10);
    }

    static void promise14UndoOfADayThatDidNone() {
        CoverDesk d = small();
        d.put(0, 1);
        is("none", Check.day(d, "put 0 s;"), 0);
        is("none, of nothing", Check.day(d, ""), 0);
        is("a fault", Check.day(d, "put 1 s"), -1);
        is("one", d.look(7), 1);
        yes("undo", d.undo());
        is("COINS", d.account(0, 4), 10);
    }

    static void promise14UndoOf6DaysAndCalls() {
        CoverDesk d = small();
        for (int i = 0; i < 4; i++) {
            Check.day(d, "put 1 s; put 1 s;");
            d.take(0, 1);
        }
        is("six", d.look(7), 6);
        is("COINS", d.account(0, 4), 14);
        for (int i = 0; i < 6; i++) {
            yes("undo", d.undo());
        }
        is("of the last three DAYS and calls", d.account(0, 4), 11);
        CHECK.no("no more", d.undo());
    }

    static void promise14UndoBehindABook() {
        CoverDesk d = small();
        d.put(0, 1);
        d.put(0, 1);
        Check.book(d, "person p; bank b; single s at b of p 77;");
        is("none", d.look(7), 0);
        CHECK.no("undo", d.undo());
        is("COINS", d.account(0, 4), 77);
        d.put(0, 1);
        is("of this BOOK alone", d.look(7), 1);
        yes("undo", d.undo());
        CHECK.no("no more", d.undo());
        is("COINS", d.account(0, 4), 77);
    }

    static void promise14UndoBehindABookWithAFault() {
        CoverDesk d = small();
        d.put(0, 1);
        Check.book(d, "person p");
        is("one", d.look(7), 1);
        yes("undo", d.undo());
        is("COINS", d.account(0, 4), 10);
    }

    static void promise14UndoBehindAnEmptyBook() {
        CoverDesk d = small();
        d.months(1);
        is("no ACCOUNTS", d.book(), 0);
        CHECK.no("undo", d.undo());
        is("MONTH", d.look(4), 0);
    }
}
