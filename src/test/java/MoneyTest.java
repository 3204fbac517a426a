/** Promises 8 to 32: the deeds and what is answered of money. Answers worked out by hand from the document. */
public final class MoneyTest {
    private static final Check CHECK = new Check();
    private static final int MIN = Integer.MIN_VALUE;
    private static final int MAX = Integer.MAX_VALUE;

    private MoneyTest() {
    }

    public static void main(String[] args) {
        promise8Put();
        promise9Take();
        promise10Merge();
        promise11Months();
        promise12Pay();
        promise13Fail();
        promise14Undo();
        promise15Account();
        promise15EndOfMergers();
        promise15Chains();
        promise16Owner();
        promise16Divided();
        promise17Bank();
        promise18Held();
        promise19Group();
        promise19Most();
        promise20Of();
        promise21Warns();
        promise22And23SetOff();
        promise22And23Estate();
        promise22And23MergedBanks();
        promise24Loan();
        promise25And26Moves();
        promise27And30Kinds();
        promise28Change();
        promise29Rank();
        promise31HeirMore();
        promise32Worst();
        largest();
        full();
        allShares();
        CHECK.close("MoneyTest");
    }

    private static void is(String call, long got, long due) {
        CHECK.is(call, got, due);
    }

    private static void yes(String call, boolean got) {
        CHECK.yes(call, got);
    }

    private static void no(String call, boolean got) {
        CHECK.no(call, got);
    }

    private static CoverDesk small() {
        return Check.desk("limit 100; grace 3; person p; person q; bank b; bank c; bank d;"
                + "single s at b of p 10; joint j at c of p q 21; loan q at c 30; loan p at b 5;");
    }

    private static void promise8Put() {
        CoverDesk d = small();
        yes("put", d.put(0, 5));
        is("it is there", d.account(0, 4), 15);
        yes("put up to all", d.put(0, 99999985));
        is("all", d.account(0, 4), 100000000);
        no("one above", d.put(0, 1));
        no("0", d.put(1, 0));
        no("-1", d.put(1, -1));
        no("MIN", d.put(1, MIN));
        no("MAX", d.put(1, MAX));
        no("100000000 upon 21", d.put(1, 100000000));
        no("none such", d.put(2, 1));
        no("none such below", d.put(-1, 1));
        no("none such MAX", d.put(MAX, 1));
        no("none such MIN", d.put(MIN, 1));
        is("refused changes nothing", d.account(1, 4), 21);
        is("refused can't be undone", d.look(7), 2);
        d.merge(0, 1);
        yes("put on one of a merged bank", d.put(1, 1));
        yes("the bank into which it is merged fails", d.fail(1, 0));
        no("put on one now at it, told at another", d.put(0, 1));
        no("put on one told at it", d.put(1, 1));
    }

    private static void promise9Take() {
        CoverDesk d = small();
        yes("take", d.take(0, 4));
        is("left", d.account(0, 4), 6);
        no("as many as it has at most", d.take(0, 7));
        no("of 21", d.take(1, 100000000));
        is("refused: 6 stay", d.account(0, 4), 6);
        is("refused: 21 stay", d.account(1, 4), 21);
        is("refused can't be undone", d.look(7), 1);
        yes("all", d.take(0, 6));
        is("none left", d.account(0, 4), 0);
        no("1 of 0", d.take(0, 1));
        yes("all of 21", d.take(1, 21));
        is("none left of 21", d.account(1, 4), 0);
        no("0", d.take(0, 0));
        no("-1", d.take(0, -1));
        no("MIN", d.take(0, MIN));
        no("above", d.take(0, 100000001));
        no("none such", d.take(2, 1));
        no("none such below", d.take(-1, 1));
        is("to undo", d.look(7), 3);
        d.put(0, 100000000);
        yes("100000000", d.take(0, 100000000));
        d.undo();
        d.fail(0, 0);
        no("a failed bank left none", d.take(0, 1));
    }

    private static void promise10Merge() {
        CoverDesk d = small();
        no("into itself", d.merge(0, 0));
        no("into none", d.merge(0, 3));
        no("into NONE", d.merge(0, -1));
        no("none", d.merge(3, 0));
        no("NONE", d.merge(-1, 0));
        no("MIN", d.merge(MIN, MAX));
        yes("merge", d.merge(0, 1));
        is("into", d.bank(0, 0), 1);
        no("merged already", d.merge(0, 2));
        no("into a merged one", d.merge(2, 0));
        no("back", d.merge(1, 0));
        yes("go on", d.merge(1, 2));
        is("now at", d.account(0, 2), 2);
        d.undo();
        d.undo();
        d.fail(0, 0);
        no("failed", d.merge(0, 1));
        no("into a failed one", d.merge(1, 0));
        yes("of others", d.merge(1, 2));
    }

    private static void promise11Months() {
        CoverDesk d = small();
        no("0", d.months(0));
        no("-1", d.months(-1));
        no("100", d.months(100));
        no("MIN", d.months(MIN));
        no("MAX", d.months(MAX));
        yes("1", d.months(1));
        for (int i = 0; i < 10; i++) {
            yes("99", d.months(99));
        }
        is("991", d.look(4), 991);
        no("to 1000", d.months(9));
        yes("to 999", d.months(8));
        no("above 999", d.months(1));
        is("999", d.look(4), 999);
    }

    private static void promise12Pay() {
        CoverDesk d = small();
        yes("pay", d.pay(0, 12));
        is("left", d.loan(0, 2), 18);
        no("as much as it is at most", d.pay(0, 19));
        no("above what it was", d.pay(0, 100000000));
        is("refused: 18 stay", d.loan(0, 2), 18);
        is("refused can't be undone", d.look(7), 1);
        yes("all", d.pay(0, 18));
        is("none left", d.loan(0, 2), 0);
        no("1 of 0", d.pay(0, 1));
        no("0", d.pay(1, 0));
        no("-1", d.pay(1, -1));
        no("MIN", d.pay(1, MIN));
        no("above", d.pay(1, 100000001));
        no("none such", d.pay(2, 1));
        no("NONE", d.pay(-1, 1));
        is("accounts stay", d.account(0, 4), 10);
        is("to undo", d.look(7), 2);
    }

    private static void promise13Fail() {
        CoverDesk d = small();
        no("estate -1", d.fail(0, -1));
        no("estate MIN", d.fail(0, MIN));
        no("estate above", d.fail(0, 100000001));
        no("none such", d.fail(3, 0));
        no("NONE", d.fail(-1, 0));
        is("nothing failed", d.bank(0, 2), 0);
        d.merge(2, 0);
        no("a merged one", d.fail(2, 0));
        yes("fail", d.fail(0, 100000000));
        is("failed", d.bank(0, 2), 1);
        is("0 coins then", d.account(0, 4), 0);
        is("others stay", d.account(1, 4), 21);
        no("failed already", d.fail(0, 0));
        yes("another one, estate 0", d.fail(1, 0));
        is("the latest", d.total(0), 1);
    }

    private static void promise14Undo() {
        CoverDesk d = small();
        no("nothing", d.undo());
        d.put(0, 1);
        d.take(0, 5);
        d.merge(0, 1);
        d.months(2);
        d.pay(0, 7);
        is("five", d.look(7), 5);
        d.fail(1, 3);
        is("six", d.look(7), 6);
        d.months(1);
        is("six at most", d.look(7), 6);
        yes("undo months", d.undo());
        is("month", d.look(4), 2);
        yes("undo fail", d.undo());
        is("what it brought, too", d.total(0), -1);
        is("of an owner, too", d.came(0, 0, 0), -1);
        is("coins", d.account(1, 4), 21);
        is("loan", d.loan(0, 2), 23);
        is("not failed", d.bank(1, 2), 0);
        yes("undo pay", d.undo());
        is("loan before", d.loan(0, 2), 30);
        yes("undo months 2", d.undo());
        is("month 0", d.look(4), 0);
        yes("undo merge", d.undo());
        is("not merged", d.bank(0, 0), -1);
        is("in no month", d.bank(0, 1), -1);
        yes("undo take", d.undo());
        is("coins before", d.account(0, 4), 11);
        no("the seventh is gone", d.undo());
        d.fail(0, 0);
        d.fail(1, 0);
        d.undo();
        is("the failing before", d.total(0), 0);
        is("what came then", d.came(0, 0, 0), 5);
        d = Check.desk("limit 1; person p; bank b; bank c; single s at b of p 9; plan l at c of p 5; loan p at b 2;");
        d.fail(0, 3);
        // claims 6 and 1: 18/7 = 2 rest 4, 3/7 = 0 rest 3
        d.fail(1, 0);
        yes("undo the second", d.undo());
        came(d, 0, 0, 2, 1, 3, 3);
        came(d, 1, 0, -1, -1, -1, -1);
        total(d, 0, 2, 1, 3, 0, 3);
        d.undo();
        d.fail(0, 100);
        d.fail(1, 0);
        d.undo();
        total(d, 0, 2, 1, 6, 1, 0);
        d.months(0);
        is("a refused one counts not", d.look(7), 1);
        yes("undo", d.undo());
        Check.day(d, "months 1; months 1;");
        d.months(5);
        yes("undo the months", d.undo());
        is("two of the day", d.look(4), 2);
        yes("undo the day", d.undo());
        is("a day is one", d.look(4), 0);
        no("no more", d.undo());
    }

    private static void promise15Account() {
        CoverDesk d = small();
        is("insured of all shares", d.account(1, 8), 21);
        is("kind", d.account(1, 0), 1);
        is("never", d.account(0, 9), -1);
        is("another what", d.account(0, 10), -2);
        is("what -1", d.account(0, -1), -2);
        is("what MIN", d.account(0, MIN), -2);
        is("none such", d.account(2, 0), -2);
        is("NONE", d.account(-1, 0), -2);
        is("MAX", d.account(MAX, 0), -2);
        d.merge(0, 1);
        is("home", d.account(0, 1), 0);
        is("now at", d.account(0, 2), 1);
        is("counted at", d.account(0, 3), 0);
        is("from which month on", d.account(0, 9), 3);
        d.months(2);
        is("counted at in month 2", d.account(0, 3), 0);
        d.months(1);
        is("counted at in month 3", d.account(0, 3), 1);
        is("never any more", d.account(0, 9), -1);
    }

    private static void end(String book, int month, int due) {
        CoverDesk d = Check.desk(book);
        for (int left = month; left > 0; left -= 99) {
            d.months(Math.min(left, 99));
        }
        d.merge(0, 1);
        is("end in month " + month + " of " + book, d.account(0, 9), due);
    }

    private static void promise15EndOfMergers() {
        String head = "person p; bank b; bank c; single s at b of p 10";
        end("grace 3;" + head + ";", 2, 5);
        end("grace 3;" + head + " term 4;", 2, 8);
        end("grace 3;" + head + " term 5;", 2, 5);
        end("grace 3;" + head + " term 6;", 2, 6);
        end("grace 3;" + head + " term 1;", 2, 5);
        end("grace 3;" + head + " term 60;", 57, 60);
        end("grace 3;" + head + " term 60;", 58, 120);
        end(head + ";", 0, 6);
        end(head + " term 4;", 999, 1008);
        end("grace 60;" + head + ";", 999, 1059);
        // above 0: 0 itself does not do
        end("grace 0;" + head + " term 7;", 0, 7);
        // the month is not below the end at once
        end("grace 0;" + head + ";", 0, -1);
        CoverDesk d = Check.desk("grace 0;" + head + ";");
        d.merge(0, 1);
        is("counted at at once", d.account(0, 3), 1);
    }

    private static void promise15Chains() {
        CoverDesk d = Check.desk("limit 10; grace 2; person p; bank b; bank c; bank d;"
                + "single s at b of p 10; single t at b of p 10 term 5; single u at c of p 10;");
        d.merge(0, 1);
        d.months(1);
        d.merge(1, 2);
        is("now at the last", d.account(0, 2), 2);
        is("month 1: b", d.account(0, 3), 0);
        is("s leaves in 2", d.account(0, 9), 2);
        is("u leaves in 3", d.account(2, 9), 3);
        is("t leaves in 5", d.account(1, 9), 5);
        d.months(1);
        is("month 2: c", d.account(0, 3), 1);
        is("s leaves again in 3", d.account(0, 9), 3);
        d.months(1);
        is("month 3: d", d.account(0, 3), 2);
        is("t still at b", d.account(1, 3), 0);
        d.months(2);
        is("month 5: t at d", d.account(1, 3), 2);
        is("all three together", d.account(1, 8), 3);
    }

    private static void promise16Owner() {
        CoverDesk d = Check.desk("limit 5; person p; person q; person r; person o; bank b;"
                + "joint j at b of r p o q 11; single s at b of q 9;");
        int[] who = {2, 0, 3, 1};
        int[] share = {3, 3, 3, 2};
        for (int k = 0; k < 4; k++) {
            is("who " + k, d.owner(0, k, 0), who[k]);
            is("share " + k, d.owner(0, k, 1), share[k]);
            is("insured " + k, d.owner(0, k, 2), share[k]);
        }
        is("insured of 9", d.owner(1, 0, 2), 5);
        is("no such owner", d.owner(0, 4, 0), -1);
        is("no such owner", d.owner(1, 1, 0), -1);
        is("NONE", d.owner(0, -1, 0), -1);
        is("MIN", d.owner(0, MIN, 0), -1);
        is("MAX", d.owner(0, MAX, 1), -1);
        is("another what", d.owner(0, 0, 3), -1);
        is("another what", d.owner(0, 0, -1), -1);
        is("no such account", d.owner(2, 0, 0), -1);
        is("no such account", d.owner(-1, 0, 0), -1);
    }

    private static void divided(int limit, int[] coins, int[] due) {
        StringBuilder b = new StringBuilder("person p; bank b; limit " + limit + ";");
        for (int i = 0; i < coins.length; i++) {
            b.append("firm ").append((char) ('t' + i)).append(" at b of p ").append(coins[i]).append(';');
        }
        CoverDesk d = Check.desk(b.toString());
        for (int i = 0; i < coins.length; i++) {
            is("share " + i + " of " + b, d.owner(i, 0, 2), due[i]);
        }
    }

    private static void promise16Divided() {
        divided(10, new int[] {3, 3, 4}, new int[] {3, 3, 4});
        // 70 by 21 is 3, rest 7, three times: the one left goes to the first
        divided(10, new int[] {7, 7, 7}, new int[] {4, 3, 3});
        // rests 8, 17, 17
        divided(10, new int[] {5, 8, 8}, new int[] {2, 4, 4});
        // rests 18, 17, 7
        divided(10, new int[] {6, 8, 7}, new int[] {3, 4, 3});
        // rests 7, 18, 17
        divided(10, new int[] {7, 6, 8}, new int[] {3, 3, 4});
        // one for many: the first
        divided(1, new int[] {2, 2, 2}, new int[] {1, 0, 0});
        divided(1, new int[] {0, 2, 3}, new int[] {0, 0, 1});
        divided(100000000, new int[] {100000000, 100000000, 1}, new int[] {50000000, 50000000, 0});
        divided(99999999, new int[] {100000000, 100000000, 100000000}, new int[] {33333333, 33333333, 33333333});
    }

    private static void promise17Bank() {
        CoverDesk d = small();
        d.months(4);
        d.merge(0, 1);
        long[][] due = {{1, 4, 0, 0, 1}, {-1, -1, 0, 2, 1}, {-1, -1, 0, 0, 0}};
        for (int b = 0; b < 3; b++) {
            for (int what = 0; what < 5; what++) {
                is("bank(" + b + ", " + what + ")", d.bank(b, what), due[b][what]);
            }
        }
        d.months(3);
        is("counted at b no more", d.bank(0, 4), 0);
        is("counted at c", d.bank(1, 4), 2);
        d.fail(1, 0);
        is("failed", d.bank(1, 2), 1);
        is("accounts stay at it", d.bank(1, 3), 2);
        is("another what", d.bank(0, 5), -2);
        is("another what", d.bank(0, -1), -2);
        is("none such", d.bank(3, 0), -2);
        is("NONE", d.bank(-1, 0), -2);
        is("MIN", d.bank(MIN, 2), -2);
    }

    private static void promise18Held() {
        CoverDesk d = Check.desk("limit 15; grace 3; person p; person q; bank b; bank c;"
                + "single s at b of p 10; single t at c of p 9; joint j at c of p q 41; loan q at c 30; loan p at b 5;");
        is("coins", d.held(1, 0), 50);
        is("insured: 9, 15, 15", d.held(1, 1), 39);
        is("loans", d.held(1, 2), 30);
        d.merge(0, 1);
        is("coins of both", d.held(1, 0), 60);
        is("insured apart", d.held(1, 1), 49);
        is("loans of both", d.held(1, 2), 35);
        is("none at the merged", d.held(0, 0) + d.held(0, 1) + d.held(0, 2), 0);
        d.months(3);
        is("insured together", d.held(1, 1), 45);
        is("another what", d.held(0, 3), -1);
        is("another what", d.held(0, -1), -1);
        is("none such", d.held(2, 0), -1);
        is("NONE", d.held(-1, 0), -1);
    }

    private static void promise19Group() {
        CoverDesk d = Check.desk("limit 15; grace 3; person p; person q; bank b; bank c;"
                + "single s at b of p 10; single t at c of p 9; joint j at c of q p 41; joint k at c of p q 0;");
        d.months(2);
        d.merge(0, 1);
        long[] apart = {9, 15, 9, 1};
        long[] together = {19, 15, 15, 2};
        long[] none = {0, 0, 0, 0};
        long[] joint = {20, 15, 15, 2};
        for (int what = 0; what < 4; what++) {
            is("before the end", d.group(0, 0, 1, 4, what), apart[what]);
            is("long before", d.group(0, 0, 1, 0, what), apart[what]);
            is("in the month of the end", d.group(0, 0, 1, 5, what), together[what]);
            is("in month 999", d.group(0, 0, 1, 999, what), together[what]);
            is("at the merged one then", d.group(0, 0, 0, 5, what), none[what]);
            is("of none", d.group(1, 0, 1, 2, what), none[what]);
            is("joint", d.group(0, 1, 1, 2, what), joint[what]);
        }
        is("month 1000", d.group(0, 0, 1, 1000, 0), -1);
        is("month -1", d.group(0, 0, 1, -1, 0), -1);
        is("person 2", d.group(2, 0, 1, 0, 0), -1);
        is("person -1", d.group(-1, 0, 1, 0, 0), -1);
        is("kind 5", d.group(0, 5, 1, 0, 0), -1);
        is("kind -1", d.group(0, -1, 1, 0, 0), -1);
        is("bank 2", d.group(0, 0, 2, 0, 0), -1);
        is("bank -1", d.group(0, 0, -1, 0, 0), -1);
        is("what 4", d.group(0, 0, 1, 0, 4), -1);
        is("what -1", d.group(0, 0, 1, 0, -1), -1);
        is("MIN", d.group(MIN, MIN, MIN, MIN, MIN), -1);
    }

    private static void promise19Most() {
        CoverDesk d = Check.desk("limit 10; person p; person q; bank b; bank c;"
                + "trust t at b of p q for p x y 47; trust u at b of p for y z 1;"
                + "trust v at c of p for p 12; trust w at c of q for g h i j k l 70;");
        is("p: x y z", d.group(0, 2, 0, 0, 1), 30);
        is("p: 24 and 1", d.group(0, 2, 0, 0, 2), 25);
        is("q: p x y", d.group(1, 2, 0, 0, 1), 30);
        is("own name alone", d.group(0, 2, 1, 0, 1), 10);
        is("insured", d.account(2, 8), 10);
        is("5 at most", d.group(1, 2, 1, 0, 1), 50);
        is("insured 50", d.account(3, 8), 50);
        CoverDesk e = Check.desk("limit 10; person p; bank b; trust t at b of p for p g h i j k 70; "
                + "trust u at b of p for l m 0;");
        is("5 at most of 7", e.group(0, 2, 0, 0, 1), 50);
    }

    private static void promise20Of() {
        CoverDesk d = Check.desk("limit 10; grace 1; person p; person q; bank b; bank c;"
                + "single s at b of p 12; plan l at b of p 5; single t at c of p 4; joint j at c of q p 30;");
        d.merge(1, 0);
        long[] now = {36, 29, 7};
        long[] then = {36, 25, 11};
        for (int what = 0; what < 3; what++) {
            is("of p now", d.of(0, 0, what), now[what]);
            is("of p in month 1", d.of(0, 1, what), then[what]);
        }
        is("of q", d.of(1, 0, 2), 5);
        is("month 1000", d.of(0, 1000, 0), -1);
        is("month -1", d.of(0, -1, 0), -1);
        is("another what", d.of(0, 0, 3), -1);
        is("another what", d.of(0, 0, -1), -1);
        is("none such", d.of(2, 0, 0), -1);
        is("NONE", d.of(-1, 0, 0), -1);
    }

    private static void promise21Warns() {
        CoverDesk d = Check.desk("limit 10; grace 2; person p; person q; bank b; bank c; bank e;"
                + "single s at b of p 6 term 5; single t at c of p 4; single u at e of p 1; single v at b of q 7;");
        is("nothing merged", d.warns(0), -1);
        d.merge(0, 1);
        is("6 and 4 are 10", d.warns(0), -1);
        d.months(1);
        d.merge(1, 2);
        is("s comes to t and u in 5", d.warns(0), 5);
        is("another person", d.warns(1), -1);
        d.months(4);
        is("not above what it is now", d.warns(0), -1);
        is("none such", d.warns(2), -1);
        is("NONE", d.warns(-1), -1);
        is("MAX", d.warns(MAX), -1);
        CoverDesk late = Check.desk("limit 10; grace 60; person p; bank b; bank c; single s at b of p 6; single t at c of p 6;");
        for (int i = 0; i < 9; i++) {
            late.months(99);
        }
        late.months(48);
        late.merge(0, 1);
        is("999", late.warns(0), 999);
        late.undo();
        late.months(1);
        late.merge(0, 1);
        is("1000 is too late", late.warns(0), -1);
        is("but told of the account", late.account(0, 9), 1000);
    }

    private static void came(CoverDesk d, int account, int k, int... due) {
        for (int what = 0; what < 4; what++) {
            is("came(" + account + ", " + k + ", " + what + ")", d.came(account, k, what), due[what]);
        }
    }

    private static void total(CoverDesk d, long... due) {
        for (int what = 0; what < 6; what++) {
            is("total(" + what + ")", d.total(what), due[what]);
        }
    }

    private static void promise22And23SetOff() {
        CoverDesk d = Check.desk("limit 10; person p; person q; bank b; bank c;"
                + "single s at b of p 15; plan l at b of p 10; joint j at b of p q 9; firm f at c of p 70;"
                + "loan p at b 8; loan p at c 9; loan q at b 5; loan p at b 100;");
        is("none failed yet", d.total(0), -1);
        is("none failed yet", d.came(0, 0, 0), -1);
        yes("fail", d.fail(0, 7));
        // loan 0: 5 of s not insured, then 3 insured; loan 2: q's 4; loan 3: s 7, l 10, j 5
        came(d, 0, 0, 15, 0, 0, 0);
        came(d, 1, 0, 10, 0, 0, 0);
        came(d, 2, 0, 5, 0, 0, 0);
        came(d, 2, 1, 4, 0, 0, 0);
        came(d, 3, 0, -1, -1, -1, -1);
        total(d, 0, 34, 0, 0, 0, 0);
        is("loan 0", d.loan(0, 2), 0);
        is("loan 1 is elsewhere", d.loan(1, 2), 9);
        is("loan 2", d.loan(2, 2), 1);
        is("loan 3", d.loan(3, 2), 78);
        d.undo();
        d.pay(3, 100);
        yes("fail", d.fail(0, 7));
        // now s has 7 left, all insured: 7 + 10 + 5 paid, no claims but that
        came(d, 0, 0, 8, 7, 0, 0);
        came(d, 1, 0, 0, 10, 0, 0);
        came(d, 2, 0, 0, 5, 0, 0);
        came(d, 2, 1, 4, 0, 0, 0);
        total(d, 0, 12, 22, 0, 7, 0);
        is("what 4", d.came(0, 0, 4), -1);
        is("what -1", d.came(0, 0, -1), -1);
        is("owner 1", d.came(0, 1, 0), -1);
        is("owner -1", d.came(1, -1, 0), -1);
        is("account 4", d.came(4, 0, 0), -1);
        is("account -1", d.came(-1, 0, 0), -1);
        is("total 6", d.total(6), -1);
        is("total -1", d.total(-1), -1);
        is("total MIN", d.total(MIN), -1);
    }

    private static CoverDesk two(int limit, int one, int other, int estate) {
        CoverDesk d = Check.desk("limit " + limit + "; person p; person q; bank b; bank c; single s at b of p " + one
                + "; firm f at b of q " + other + "; single t at c of q 5; plan l at c of p 1;");
        d.fail(0, estate);
        return d;
    }

    private static void promise22And23Estate() {
        // claims 3, 3 and the 2 paid: 8
        CoverDesk d = two(1, 4, 4, 0);
        came(d, 0, 0, 0, 1, 0, 3);
        total(d, 0, 0, 2, 0, 0, 6);
        d = two(1, 4, 4, 1);
        // rests 3, 3, 2: the first
        came(d, 0, 0, 0, 1, 1, 2);
        came(d, 1, 0, 0, 1, 0, 3);
        total(d, 0, 0, 2, 1, 0, 5);
        d = two(1, 4, 4, 2);
        // rests 6, 6, 4
        came(d, 1, 0, 0, 1, 1, 2);
        total(d, 0, 0, 2, 2, 0, 4);
        d = two(1, 4, 4, 3);
        // 1 rest 1, 1 rest 1, 0 rest 6
        total(d, 0, 0, 2, 2, 1, 4);
        d = two(1, 4, 4, 8);
        came(d, 0, 0, 0, 1, 3, 0);
        total(d, 0, 0, 2, 6, 2, 0);
        d = two(1, 4, 4, 100000000);
        total(d, 0, 0, 2, 6, 2, 0);
        // claims 3, 3 and 20 paid: 10 of 26 gives 1 rest 4, 1 rest 4, 7 rest 18
        d = two(10, 13, 13, 10);
        total(d, 0, 0, 20, 2, 8, 4);
        // claims of one account's owners, of equal rests the first
        d = Check.desk("limit 1; person p; person q; bank b; joint j at b of q p 8;");
        d.fail(0, 1);
        came(d, 0, 0, 0, 1, 1, 2);
        came(d, 0, 1, 0, 1, 0, 3);
        d = Check.desk("person p; bank b; bank c; single s at c of p 5;");
        d.fail(0, 5);
        total(d, 0, 0, 0, 0, 0, 0);
        is("not there", d.came(0, 0, 0), -1);
        d.fail(1, 0);
        came(d, 0, 0, 0, 5, 0, 0);
        total(d, 1, 0, 5, 0, 0, 0);
    }

    private static void promise22And23MergedBanks() {
        CoverDesk d = Check.desk("limit 10; grace 2; person p; bank b; bank c; single s at b of p 15; single t at c of p 8;"
                + " loan p at b 4;");
        d.merge(0, 1);
        d.months(1);
        yes("fails in the month before the end", d.fail(1, 0));
        // counted apart: 10 of 15, 8 of 8; the loan is now at c
        came(d, 0, 0, 4, 10, 0, 1);
        came(d, 1, 0, 0, 8, 0, 0);
        total(d, 1, 4, 18, 0, 0, 1);
        d.undo();
        d.months(1);
        yes("fails in the month of the end", d.fail(1, 0));
        // counted together: 10 of 23 is 150/23 = 6 rest 12, 80/23 = 3 rest 11; the loan takes 4 of the 9 of s
        came(d, 0, 0, 4, 7, 0, 4);
        came(d, 1, 0, 0, 3, 0, 5);
        total(d, 1, 4, 10, 0, 0, 9);
    }

    private static void promise24Loan() {
        CoverDesk d = small();
        is("person", d.loan(0, 0), 1);
        is("now at", d.loan(1, 1), 0);
        is("coins", d.loan(0, 2), 30);
        d.merge(0, 2);
        is("now at the other", d.loan(1, 1), 2);
        is("another what", d.loan(0, 3), -1);
        is("another what", d.loan(0, -1), -1);
        is("none such", d.loan(2, 0), -1);
        is("NONE", d.loan(-1, 0), -1);
        is("MIN", d.loan(MIN, 0), -1);
    }

    private static void moves(CoverDesk d, long wanting, long lesser, long bank, long... moves) {
        is("moves 0", d.moves(0, 0), wanting);
        is("moves 1", d.moves(0, 1), lesser);
        is("moves 2", d.moves(0, 2), bank);
        is("how many", d.move(0, -1, MIN), moves.length / 3);
        for (int i = 0; i < moves.length; i++) {
            is("move " + i / 3 + " what " + i % 3, d.move(0, i / 3, i % 3), moves[i]);
        }
        is("no such move", d.move(0, moves.length / 3, 0), -1);
        is("no such move below", d.move(0, -2, 0), -1);
    }

    private static void promise25And26Moves() {
        CoverDesk d = Check.desk("limit 100; grace 5; person p; person q; bank b; bank c; bank e; bank f;"
                + "single s at b of p 250; single t at c of p 30; single u at e of p 100; single v at f of q 90;"
                + "plan l at f of p 500; joint j at f of p q 500;");
        moves(d, 0, 150, 3, 0, 1, 70, 0, 3, 80);
        is("q has room alone", d.moves(1, 1), 0);
        is("q: of several the first", d.moves(1, 2), 0);
        is("q: no moves", d.move(1, -1, 0), 0);
        d.put(1, 70);
        d.put(2, 60);
        // excess 150, 0, 60, room only at f
        moves(d, 110, 100, 3, 0, 3, 100);
        d.take(0, 90);
        moves(d, 20, 100, 3, 0, 3, 60, 2, 3, 40);
        d.merge(3, 0);
        // f is merged: no room at all
        moves(d, 120, 0, -1);
        d.undo();
        d.fail(3, 0);
        moves(d, 120, 0, -1);
        d.undo();
        d.merge(0, 3);
        // b is merged, but s still counts there
        moves(d, 20, 100, 3, 0, 3, 60, 2, 3, 40);
        d.months(5);
        // s counts at f now: 160 there, no room anywhere
        moves(d, 120, 0, -1);
        is("another what", d.moves(0, 3), -1);
        is("another what", d.moves(0, -1), -1);
        is("none such", d.moves(2, 0), -1);
        is("NONE", d.moves(-1, 0), -1);
        is("move of none such", d.move(2, -1, 0), -1);
        is("move of NONE", d.move(-1, -1, 0), -1);
        d = Check.desk("limit 10; person p; bank b; bank c; single s at b of p 12;");
        is("another what", d.move(0, 0, 3), -1);
        is("another what", d.move(0, 0, -1), -1);
        is("a move", d.move(0, 0, 2), 2);
        d = Check.desk("limit 10; person p; bank b; bank c; bank e; single s at c of p 9; single t at b of p 25;");
        moves(d, 4, 11, 2, 0, 1, 1, 0, 2, 10);
        d = Check.desk("limit 10; person p; bank b; bank c; single s at b of p 10; single t at c of p 9;");
        moves(d, 0, 0, 1);
        d.put(1, 1);
        moves(d, 0, 0, -1);
    }

    private static void promise27And30Kinds() {
        CoverDesk d = Check.desk("limit 100; person p; person q; bank b; single s at b of p 60; single t at b of p 90;"
                + "plan l at b of p 70; joint j at b of p q 5; trust r at b of p for q 5; firm f at b of p 10;");
        // single 150 of 100, plan 70, firm 10: 180 of these
        is("s a firm: 90, 70, 70", d.asKind(0, 4), 50);
        is("s a plan: 90, 100, 10", d.asKind(0, 3), 20);
        is("t a firm: 60, 70, 100", d.asKind(1, 4), 50);
        is("t a plan: 60, 100, 10", d.asKind(1, 3), -10);
        is("l a single: 100, 0, 10", d.asKind(2, 0), -70);
        is("l a firm: 100, 0, 80", d.asKind(2, 4), 0);
        is("f a plan: 100, 80, 0", d.asKind(5, 3), 0);
        is("best of s", d.bestKind(0), 4);
        is("best of t", d.bestKind(1), 4);
        is("of several the one that it is", d.bestKind(2), 3);
        is("of several the one that it is", d.bestKind(5), 4);
        is("a joint one", d.bestKind(3), -1);
        is("a trust", d.bestKind(4), -1);
        is("none such", d.bestKind(6), -1);
        is("NONE", d.bestKind(-1), -1);
        is("that already", d.asKind(0, 0), Long.MIN_VALUE);
        is("to joint", d.asKind(0, 1), Long.MIN_VALUE);
        is("to trust", d.asKind(0, 2), Long.MIN_VALUE);
        is("to 5", d.asKind(0, 5), Long.MIN_VALUE);
        is("to -1", d.asKind(0, -1), Long.MIN_VALUE);
        is("of a joint one", d.asKind(3, 0), Long.MIN_VALUE);
        is("of a trust", d.asKind(4, 0), Long.MIN_VALUE);
        is("none such", d.asKind(6, 0), Long.MIN_VALUE);
        is("NONE", d.asKind(-1, 0), Long.MIN_VALUE);
        is("it stays what it is", d.account(0, 0), 0);
        is("and its insured", d.account(0, 8), 40);
        CoverDesk e = Check.desk("limit 10; person p; bank b; firm s at b of p 8; firm t at b of p 8;");
        is("else the first", e.bestKind(0), 0);
        is("another first", e.asKind(0, 0), 6);
    }

    private static void promise28Change() {
        CoverDesk d = Check.desk("grace 2; person p; bank b; bank c; bank e; single s at b of p 6 term 5; single t at b of p 4;"
                + "single u at c of p 1; single v at c of p 1;");
        is("none", d.change(-1), 0);
        d.merge(0, 1);
        d.months(1);
        d.merge(1, 2);
        int[] due = {2, 3, 5};
        is("how many", d.change(-1), 3);
        for (int i = 0; i < 3; i++) {
            is("change " + i, d.change(i), due[i]);
        }
        is("no fourth", d.change(3), -1);
        is("-2", d.change(-2), -1);
        is("MIN", d.change(MIN), -1);
        is("MAX", d.change(MAX), -1);
        d.months(1);
        is("above now", d.change(0), 3);
        is("two left", d.change(-1), 2);
        CoverDesk late = Check.desk("grace 5; person p; bank b; bank c; single s at b of p 6; single t at b of p 4 term 10;");
        for (int i = 0; i < 10; i++) {
            late.months(99);
        }
        late.months(4);
        late.merge(0, 1);
        is("999 at most", late.change(-1), 1);
        is("999", late.change(0), 999);
        is("1000 is too late", late.change(1), -1);
    }

    private static void promise29Rank() {
        CoverDesk d = Check.desk("limit 10; grace 1; person p; person q; person r; person o; bank b; bank c;"
                + "single s at b of q 15; single t at b of r 30; plan u at b of o 15; single v at c of q 10;");
        int[] due = {2, 1, 3, 0};
        for (int i = 0; i < 4; i++) {
            is("rank " + i, d.rank(i), due[i]);
        }
        is("no fifth", d.rank(4), -1);
        is("NONE", d.rank(-1), -1);
        is("MIN", d.rank(MIN), -1);
        d.put(0, 20);
        is("q is first now", d.rank(0), 1);
        d.undo();
        d.put(1, 5);
        d.merge(1, 0);
        d.months(1);
        // q: 25 of 10 is 15 open, r 25
        is("r", d.rank(0), 2);
        is("q", d.rank(1), 1);
        CoverDesk e = Check.desk("limit 10; grace 1; person p; person q; bank b; bank c;"
                + "single s at b of p 10; single t at c of p 10; single u at b of q 15;");
        is("q: 5", e.rank(0), 1);
        e.merge(0, 1);
        e.months(1);
        is("p: 10 now", e.rank(0), 0);
    }

    private static void promise31HeirMore() {
        CoverDesk d = Check.desk("limit 10; person p; person q; bank b; bank c;"
                + "trust t at b of p for x 27; trust u at b of p q for x p 10; trust v at c of q for q 25;"
                + "trust w at c of p for g h i j k l 99; single s at b of p 1;");
        // p at b: 27 + 5 of 10 (x), q at b: 5 of 20; one more: 20 for p
        is("t", d.heirMore(0), 10);
        is("u: the same group of p", d.heirMore(1), 10);
        is("v: own name alone is 1 already", d.heirMore(2), 0);
        is("w has 6", d.heirMore(3), -1);
        is("no trust", d.heirMore(4), -1);
        is("none such", d.heirMore(5), -1);
        is("NONE", d.heirMore(-1), -1);
        is("nothing stays", d.account(0, 6), 1);
        is("nor insured", d.group(0, 2, 0, 0, 1), 10);
        CoverDesk e = Check.desk("limit 10; person p; person q; bank b; trust t at b of p q for g h i j k 130;"
                + "trust u at b of p for x 0; trust v at b of q for p q 0;");
        is("5 heirs already", e.heirMore(0), 0);
        CoverDesk one = Check.desk("limit 10; person p; bank b; trust t at b of p for a 30;");
        is("a NAME that nobody has", one.heirMore(0), 10);
        CoverDesk f = Check.desk("limit 10; person p; person q; bank b; trust t at b of p q for g h 63;");
        is("for two: 32 and 31 of 20, of 30", f.heirMore(0), 20);
        f.take(0, 20);
        is("22 and 21 of 20", f.heirMore(0), 3);
    }

    private static void promise32Worst() {
        CoverDesk d = Check.desk("limit 10; grace 2; person p; person q; bank b; bank c; bank e;"
                + "single s at b of p 15; single t at c of p 14; single u at c of q 14; firm f at e of q 17; loan q at c 2;");
        // b: 5, c: 4 + 4 - 2, e: 7
        is("worst", d.worst(0), 2);
        is("worst lost", d.worst(1), 7);
        is("nothing failed", d.total(0), -1);
        is("no loan is set off", d.loan(0, 2), 2);
        d.put(0, 2);
        is("of several the first", d.worst(0), 0);
        is("7", d.worst(1), 7);
        d.merge(0, 1);
        is("both together", d.worst(0), 1);
        is("7 and 6", d.worst(1), 13);
        d.fail(1, 0);
        is("left", d.worst(0), 2);
        d.fail(2, 0);
        is("none", d.worst(0), -1);
        is("none", d.worst(1), -1);
        is("another what", small().worst(2), -1);
        is("another what", small().worst(-1), -1);
        CoverDesk none = Check.desk("limit 1; person p; bank b; single s at b of p 100;");
        is("an estate of 0", none.worst(1), 99);
        is("none lost: the first", small().worst(0), 0);
        is("none lost", small().worst(1), 0);
    }

    /** Sums above the largest int. */
    private static void largest() {
        StringBuilder b = new StringBuilder("person pa;bank b;bank c;limit 100000000;");
        for (char c = 'd'; c < 'd' + 22; c++) {
            b.append("firm ").append(c).append(" at b of pa 100000000;");
        }
        b.append("firm zz at b of pa 1;");
        CoverDesk d = Check.desk(b.toString());
        is("accounts", d.look(2), 23);
        is("together", d.held(0, 0), 2200000001L);
        is("of", d.of(0, 0, 0), 2200000001L);
        is("not insured", d.of(0, 0, 2), 2100000001L);
        is("group", d.group(0, 4, 0, 0, 0), 2200000001L);
        is("the insured are divided", d.held(0, 1), 100000000);
        // 10^16 by 2200000001 is 4545454 rest 1195454546 for each; 12 are left
        is("the first", d.account(0, 8), 4545455);
        is("the twelfth", d.account(11, 8), 4545455);
        is("the thirteenth", d.account(12, 8), 4545454);
        is("the little one", d.account(22, 8), 0);
        is("worst", d.worst(1), 2100000001L);
        d.fail(0, 100000000);
        is("paid", d.total(2), 100000000);
        is("lost and divided", d.total(3) + d.total(5), 2100000001L);
        is("divided in all", d.total(3) + d.total(4), 100000000);
    }

    /** As many people, banks and accounts as there may be. */
    private static void full() {
        StringBuilder b = new StringBuilder("limit10;");
        for (char c = 'a'; c <= 'j'; c++) {
            b.append("person ").append(c).append(';');
        }
        for (char c = 'k'; c <= 'p'; c++) {
            b.append("bank ").append(c).append(';');
        }
        for (int i = 0; i < 24; i++) {
            b.append("plan ").append(i < 10 ? "" : "x").append((char) ((i < 10 ? 'q' : 'a' - 10) + i)).append(" at ")
                    .append((char) ('k' + i % 6)).append(" of ").append((char) ('a' + i % 10)).append("9;");
        }
        for (int i = 0; i < 8; i++) {
            b.append("loan ").append((char) ('a' + i)).append(" at p4;");
        }
        CoverDesk d = Check.desk(b.toString());
        is("accounts", d.look(2), 24);
        long coins = 0;
        for (int bank = 0; bank < 6; bank++) {
            is("four at each", d.bank(bank, 3), 4);
            is("36 at each", d.held(bank, 0), 36);
            is("counted", d.bank(bank, 4), 4);
            is("insured", d.held(bank, 1), 36);
        }
        for (int person = 0; person < 10; person++) {
            coins += d.of(person, 999, 1);
            is("room at all six", d.moves(person, 1), 0);
            is("rank", d.rank(person), person);
            is("warns", d.warns(person), -1);
        }
        is("all", coins, 216);
        is("worst", d.worst(1), 0);
        is("loans", d.held(5, 2), 32);
        for (int bank = 0; bank < 5; bank++) {
            yes("merge", d.merge(bank, bank + 1));
        }
        is("change", d.change(0), 6);
        is("one change", d.change(-1), 1);
        is("all now at the last", d.bank(5, 3), 24);
        d.months(6);
        is("all counted at the last", d.bank(5, 4), 24);
        // a, b, c and d have 27, the others 18
        is("insured: 10 each", d.held(5, 1), 100);
        is("a's accounts: 4, 3, 3", d.account(0, 8) * 100 + d.account(10, 8) * 10 + d.account(20, 8), 433);
        is("asKind", d.asKind(23, 0), 9);
        yes("fail", d.fail(5, 100000000));
        // a to h owe 4, less than what is not insured
        is("set off", d.total(1), 32);
        is("paid", d.total(2), 100);
        is("divided", d.total(3), 84);
        is("lost", d.total(5), 0);
        is("no more bank", d.worst(0), -1);
        for (int account = 0; account < 24; account++) {
            is("0 coins", d.account(account, 4), 0);
        }
    }

    /** As many shares as there may be, all at one bank. */
    private static void allShares() {
        StringBuilder b = new StringBuilder("limit 24;person a;person b;person c;person d;bank y;");
        for (char c = 'a'; c <= 'x'; c++) {
            b.append("joint j").append(c).append(" at y of a b c d6;");
        }
        CoverDesk d = Check.desk(b.toString());
        // of each account 2, 2, 1, 1: a and b have 48 of which 24 are insured, c and d 24
        is("insured", d.held(0, 1), 96);
        is("a's first", d.owner(0, 0, 2), 1);
        is("d's last", d.owner(23, 3, 2), 1);
        is("worst", d.worst(1), 48);
        yes("fail", d.fail(0, 36));
        // 48 claims of 1 and one of 96: 36 of 144 is 0 rest 36 each, and 24
        total(d, 0, 0, 96, 12, 24, 36);
        came(d, 0, 0, 0, 1, 1, 0);
        came(d, 5, 1, 0, 1, 1, 0);
        came(d, 6, 0, 0, 1, 0, 1);
        came(d, 23, 3, 0, 1, 0, 0);
    }
}
