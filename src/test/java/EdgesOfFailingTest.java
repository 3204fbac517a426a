/**
 * The boundary cases that the document names of failing banks: promises 22 to 24 and 32, with the Terms 3 that they stand
 * on. A test each, named after the promise and the case; answers worked out by hand from the document's sentences.
 */
public final class EdgesOfFailingTest {
    private static final Check CHECK = new Check();
    private static final int MIN = Integer.MIN_VALUE;
    private static final int MAX = Integer.MAX_VALUE;
    private static final String HEAD = "limit 10; grace 3; person p; person q; bank b; bank c; ";

    private EdgesOfFailingTest() {
    }

    public static void main(String[] args) {
        Check.cases(EdgesOfFailingTest.class, CHECK);
    }

    private static void is(String call, long got, long due) {
        CHECK.is(call, got, due);
    }

    private static CoverDesk failed(String accounts, int estate) {
        CoverDesk d = Check.desk(HEAD + accounts);
        CHECK.yes("fail", d.fail(0, estate));
        return d;
    }

    /** SET OFF, PAID, DIVIDED, LOST. */
    private static void came(CoverDesk d, int account, int k, int... due) {
        for (int what = 0; what < 4; what++) {
            is("came(" + account + ", " + k + ", " + what + ")", d.came(account, k, what), due[what]);
        }
    }

    /** The BANK, SET OFF in all, PAID, DIVIDED to PEOPLE, to the last CLAIM, LOST. */
    private static void total(CoverDesk d, long... due) {
        for (int what = 0; what < 6; what++) {
            is("total(" + what + ")", d.total(what), due[what]);
        }
    }

    // ---- promise 22: came ----

    static void promise22CameOfAnotherWhat() {
        CoverDesk d = failed("single s at b of p 15;", 0);
        for (int what : new int[] {-1, -2, 4, 5, MIN, MAX}) {
            is("what " + what, d.came(0, 0, what), -1);
        }
        came(d, 0, 0, 0, 10, 0, 5);
    }

    static void promise22CameOfNoSuch() {
        CoverDesk d = failed("single s at b of p 15; joint j at b of p q 4;", 0);
        for (int n : new int[] {-1, -2, 2, 4, 24, MIN, MAX}) {
            is("account " + n, d.came(n, 0, 0), -1);
            is("owner " + n + " of j", d.came(1, n, 0), -1);
        }
        is("owner 1 of s", d.came(0, 1, 1), -1);
        is("the last of all", d.came(1, 1, 1), 2);
    }

    static void promise22CameOfNoneFailedYet() {
        CoverDesk d = Check.desk(HEAD + "single s at b of p 15;");
        came(d, 0, 0, -1, -1, -1, -1);
        d.fail(0, -1);
        d.fail(2, 0);
        came(d, 0, 0, -1, -1, -1, -1);
    }

    static void promise22CameOfNotNowAtThatBank() {
        CoverDesk d = failed("single s at b of p 15; single t at c of p 9;", 0);
        came(d, 0, 0, 0, 10, 0, 5);
        came(d, 1, 0, -1, -1, -1, -1);
        d.fail(1, 0);
        came(d, 0, 0, -1, -1, -1, -1);
        came(d, 1, 0, 0, 9, 0, 0);
    }

    static void promise22CameOfAMergedBank() {
        CoverDesk d = Check.desk(HEAD + "bank e; single s at b of p 15; single t at c of p 9; single u at e of p 3;");
        d.merge(0, 1);
        d.fail(1, 0);
        came(d, 0, 0, 0, 10, 0, 5);
        came(d, 1, 0, 0, 9, 0, 0);
        came(d, 2, 0, -1, -1, -1, -1);
    }

    static void promise22CameOfAnAccountWith0Coins() {
        CoverDesk d = failed("single s at b of p 0; joint j at b of p q 1;", 5);
        came(d, 0, 0, 0, 0, 0, 0);
        came(d, 1, 0, 0, 1, 0, 0);
        came(d, 1, 1, 0, 0, 0, 0);
        total(d, 0, 0, 1, 0, 1, 0);
    }

    static void promise22CameOfTheLatestThatWasDone() {
        CoverDesk d = failed("single s at b of p 15; single t at c of p 9;", 0);
        CHECK.no("REFUSED", d.fail(1, 100000001));
        came(d, 0, 0, 0, 10, 0, 5);
        d.put(1, 1);
        d.months(1);
        came(d, 0, 0, 0, 10, 0, 5);
        came(d, 1, 0, -1, -1, -1, -1);
    }

    static void promise22CameOfAFailingThatWasUndone() {
        CoverDesk d = failed("single s at b of p 15;", 0);
        d.undo();
        came(d, 0, 0, -1, -1, -1, -1);
        is("total", d.total(0), -1);
    }

    static void promise22CameBehindABook() {
        CoverDesk d = failed("single s at b of p 15;", 0);
        Check.book(d, HEAD + "single s at b of p");
        came(d, 0, 0, 0, 10, 0, 5);
        Check.book(d, HEAD + "single s at b of p 15;");
        came(d, 0, 0, -1, -1, -1, -1);
        is("total", d.total(0), -1);
    }

    // ---- promises 22 and 24: SET OFF ----

    /** p has 15 at the bank, of which 10 are INSURED. */
    private static void setOff(int loan, int setOff, int paid, int lost, int left) {
        CoverDesk d = failed("single s at b of p 15; loan p at b " + loan + ";", 0);
        came(d, 0, 0, setOff, paid, 0, lost);
        total(d, 0, setOff, paid, 0, 0, lost);
        is("left of " + loan, d.loan(0, 2), left);
    }

    static void promise22SetOffOf0() {
        setOff(0, 0, 10, 5, 0);
        setOff(1, 1, 10, 4, 0);
    }

    static void promise22SetOffOfWhatIsNotInsured() {
        setOff(4, 4, 10, 1, 0);
        setOff(5, 5, 10, 0, 0);
        setOff(6, 6, 9, 0, 0);
    }

    static void promise22SetOffOfAllThereIs() {
        setOff(14, 14, 1, 0, 0);
        setOff(15, 15, 0, 0, 0);
        setOff(16, 15, 0, 0, 1);
        setOff(100000000, 15, 0, 0, 99999985);
    }

    /** 5 of the plan and 2 of the firm are not INSURED, 10 of each are. */
    private static void setOffOfTwo(int loan, int ofPlan, int ofFirm) {
        CoverDesk d = failed("plan l at b of p 15; firm f at b of p 12; loan p at b " + loan + ";", 0);
        is("of the plan, of " + loan, d.came(0, 0, 0), ofPlan);
        is("of the firm, of " + loan, d.came(1, 0, 0), ofFirm);
        is("in all, of " + loan, d.total(1), ofPlan + ofFirm);
        is("left of " + loan, d.loan(0, 2), loan - ofPlan - ofFirm);
    }

    static void promise22SetOffAccountByAccount() {
        setOffOfTwo(4, 4, 0);
        setOffOfTwo(5, 5, 0);
        setOffOfTwo(6, 5, 1);
        setOffOfTwo(7, 5, 2);
    }

    static void promise22SetOffThenOfWhatIsInsured() {
        setOffOfTwo(8, 6, 2);
        setOffOfTwo(16, 14, 2);
        setOffOfTwo(17, 15, 2);
        setOffOfTwo(18, 15, 3);
        setOffOfTwo(26, 15, 11);
        setOffOfTwo(27, 15, 12);
        setOffOfTwo(28, 15, 12);
    }

    static void promise22SetOffByNumbersOfLoans() {
        CoverDesk d = failed("single s at b of p 15; loan p at b 4; loan p at b 13; loan p at b 1;", 0);
        came(d, 0, 0, 15, 0, 0, 0);
        is("LOAN 0", d.loan(0, 2), 0);
        is("LOAN 1", d.loan(1, 2), 2);
        is("LOAN 2", d.loan(2, 2), 1);
        d = failed("single s at b of p 15; loan p at b 13; loan p at b 1; loan p at b 4;", 0);
        is("LOAN 0", d.loan(0, 2), 0);
        is("LOAN 1", d.loan(1, 2), 0);
        is("LOAN 2", d.loan(2, 2), 3);
    }

    static void promise22SetOffOfTenLoans() {
        CoverDesk d = failed("single s at b of p 9;" + "loan p at b1;".repeat(10), 0);
        came(d, 0, 0, 9, 0, 0, 0);
        is("LOAN 8", d.loan(8, 2), 0);
        is("LOAN 9", d.loan(9, 2), 1);
    }

    static void promise22SetOffOfTheLastOf24Accounts() {
        StringBuilder b = new StringBuilder("person p;person q;bank b;limit 5;loan q at b4;");
        for (char c = 'a'; c <= 'w'; c++) {
            b.append("firm ").append(c).append("x at b of p1;");
        }
        CoverDesk d = new CoverDesk();
        is("24", Check.book(d, b + "firm z at b of q9;"), 24);
        d.fail(0, 0);
        came(d, 23, 0, 4, 5, 0, 0);
        is("p's", d.total(5), 18);
        is("LOAN", d.loan(0, 2), 0);
    }

    static void promise22SetOffOfItsPersonsShares() {
        // p has 13, q 12 of the joint one, 10 of each INSURED
        CoverDesk d = failed("joint j at b of p q 25; loan q at b 100;", 0);
        came(d, 0, 0, 0, 10, 0, 3);
        came(d, 0, 1, 12, 0, 0, 0);
        is("left", d.loan(0, 2), 88);
        d = failed("single s at b of p 5; loan q at b 100;", 0);
        came(d, 0, 0, 0, 5, 0, 0);
        is("of a PERSON without SHARES", d.loan(0, 2), 100);
    }

    static void promise22SetOffOfSharesThereAlone() {
        CoverDesk d = failed("single s at b of p 5; single t at c of p 50; loan p at b 9; loan p at c 7;", 0);
        came(d, 0, 0, 5, 0, 0, 0);
        came(d, 1, 0, -1, -1, -1, -1);
        is("COINS elsewhere", d.account(1, 4), 50);
        is("LOAN there", d.loan(0, 2), 4);
        is("LOAN elsewhere", d.loan(1, 2), 7);
    }

    static void promise22SetOffOfLoansOfAMergedBank() {
        CoverDesk d = Check.desk(HEAD + "single s at c of p 5; loan p at b 3;");
        d.merge(0, 1);
        d.fail(1, 0);
        came(d, 0, 0, 3, 2, 0, 0);
        is("LOAN", d.loan(0, 2), 0);
        is("NOW AT", d.loan(0, 1), 1);
    }

    static void promise22ByTheInsuredOfTheMonth() {
        for (int month = 0; month < 5; month++) {
            CoverDesk d = Check.desk(HEAD + "single s at b of p 10; single t at c of p 10;");
            d.merge(0, 1);
            Check.pass(d, month);
            d.fail(1, 0);
            int paid = month < 3 ? 10 : 5;
            came(d, 0, 0, 0, paid, 0, 10 - paid);
            came(d, 1, 0, 0, paid, 0, 10 - paid);
        }
    }

    static void promise22ByTheInsuredOfOneGroupFromEndOn() {
        CoverDesk d = Check.desk("limit 10; grace 3; person p; bank b; bank c; single s at b of p 10; single u at c of p 20;");
        d.merge(0, 1);
        d.months(3);
        // 100 by 30 is 3 rest 10, 200 by 30 is 6 rest 20
        d.fail(1, 0);
        came(d, 0, 0, 0, 3, 0, 7);
        came(d, 1, 0, 0, 7, 0, 13);
    }

    // ---- promises 22 and 23: the ESTATE ----

    /** CLAIMS are 3 of the firm, 2 of the plan and the 20 PAID: 25 together. */
    private static void estate(int estate, int toFirm, int toPlan, int toLast) {
        CoverDesk d = failed("firm f at b of p 13; plan l at b of q 12;", estate);
        came(d, 0, 0, 0, 10, toFirm, 3 - toFirm);
        came(d, 1, 0, 0, 10, toPlan, 2 - toPlan);
        total(d, 0, 0, 20, toFirm + toPlan, toLast, 5 - toFirm - toPlan);
    }

    static void promise23EstateOf0() {
        estate(0, 0, 0, 0);
    }

    static void promise23EstateOf1() {
        // rests 3, 2, 20
        estate(1, 0, 0, 1);
    }

    static void promise23EstateBelowClaims() {
        // 15 by 25 rest 15, 10 by 25 rest 10, 100 by 25 is 4
        estate(5, 1, 0, 4);
        // 1 rest 11, 0 rest 24, 9 rest 15
        estate(12, 1, 1, 10);
        // 2 rest 19, 1 rest 21, 18 rest 10
        estate(23, 3, 2, 18);
        // 2 rest 22, 1 rest 23, 19 rest 5
        estate(24, 3, 2, 19);
    }

    static void promise23EstateOfClaimsTogetherAndAbove() {
        estate(25, 3, 2, 20);
        estate(26, 3, 2, 20);
        estate(100000000, 3, 2, 20);
    }

    static void promise23EstateOfEqualRests() {
        // CLAIMS 1 and 1: the first ACCOUNT, then the last
        CoverDesk d = Check.desk("limit 1; person p; bank b; single s at b of p 2;");
        d.fail(0, 1);
        came(d, 0, 0, 0, 1, 1, 0);
        total(d, 0, 0, 1, 1, 0, 0);
        // CLAIMS 1, 1 of one ACCOUNT, 1 of another and the 3 PAID
        d = Check.desk("limit 1; person p; person q; bank b; joint j at b of q p 4; single s at b of p 2;");
        d.fail(0, 2);
        // rests 2, 2, 2 of 6, and 6 by 6 is 1: one is left
        came(d, 0, 0, 0, 1, 1, 0);
        came(d, 0, 1, 0, 1, 0, 1);
        came(d, 1, 0, 0, 1, 0, 1);
        total(d, 0, 0, 3, 1, 1, 2);
        d.undo();
        d.fail(0, 4);
        // 4 by 6 rest 4, three times, 12 by 6 is 2: two are left
        came(d, 0, 0, 0, 1, 1, 0);
        came(d, 0, 1, 0, 1, 1, 0);
        came(d, 1, 0, 0, 1, 0, 1);
    }

    static void promise23EstateWithoutClaims() {
        CoverDesk d = failed("single s at b of p 0;", 100000000);
        came(d, 0, 0, 0, 0, 0, 0);
        total(d, 0, 0, 0, 0, 0, 0);
        d = failed("single s at b of p 9; loan p at b 9;", 5);
        came(d, 0, 0, 9, 0, 0, 0);
        total(d, 0, 9, 0, 0, 0, 0);
    }

    static void promise23EstateOfTheLastClaimAlone() {
        total(failed("single s at b of p 10;", 0), 0, 0, 10, 0, 0, 0);
        total(failed("single s at b of p 10;", 9), 0, 0, 10, 0, 9, 0);
        total(failed("single s at b of p 10;", 10), 0, 0, 10, 0, 10, 0);
        total(failed("single s at b of p 10;", 11), 0, 0, 10, 0, 10, 0);
    }

    static void promise23EstateOfWhatIsLeftBySetOff() {
        // 12 are SET OFF: 5 not INSURED, 7 INSURED; 3 are PAID and the only CLAIM
        total(failed("single s at b of p 15; loan p at b 12;", 2), 0, 12, 3, 0, 2, 0);
        total(failed("single s at b of p 15; loan p at b 12;", 5), 0, 12, 3, 0, 3, 0);
        // 2 are SET OFF: CLAIMS 3 and 10
        total(failed("single s at b of p 15; loan p at b 2;", 13), 0, 2, 10, 3, 10, 0);
        // 36 by 13 is 2 rest 10, 120 by 13 is 9 rest 3
        total(failed("single s at b of p 15; loan p at b 2;", 12), 0, 2, 10, 3, 9, 0);
    }

    static void promise23EstateOfAsManyClaimsAsThereMayBe() {
        StringBuilder b = new StringBuilder("limit 24;person a;person b;person c;person d;bank y;");
        for (char c = 'a'; c <= 'x'; c++) {
            b.append("joint j").append(c).append(" at y of d c b a8;");
        }
        CoverDesk d = Check.desk(b.toString());
        // 48 of each, of which 24 are INSURED: 96 CLAIMS of 1 and one of 96
        d.fail(0, 100);
        // 100 by 192 rest 100 of each, 9600 by 192 is 50: 50 are left, for d, c, b, a of the first twelve and two more
        total(d, 0, 0, 96, 50, 50, 46);
        is("of the twelfth", d.came(11, 3, 2), 1);
        is("of the next", d.came(12, 1, 2), 1);
        is("no more", d.came(12, 2, 2), 0);
        is("the last", d.came(23, 3, 3), 1);
        d.undo();
        d.fail(0, 192);
        total(d, 0, 0, 96, 96, 96, 0);
        is("the last", d.came(23, 3, 2), 1);
    }

    // ---- promise 23: total ----

    static void promise23TotalOfAnotherWhat() {
        CoverDesk d = failed("single s at b of p 15;", 3);
        for (int what : new int[] {-1, -2, 6, 7, MIN, MAX}) {
            is("what " + what, d.total(what), -1);
        }
        total(d, 0, 0, 10, 1, 2, 4);
    }

    static void promise23TotalOfNoneFailedYet() {
        CoverDesk d = Check.desk(HEAD + "single s at b of p 15;");
        total(d, -1, -1, -1, -1, -1, -1);
        d.fail(0, -1);
        total(d, -1, -1, -1, -1, -1, -1);
    }

    static void promise23TotalOfTheLatest() {
        CoverDesk d = failed("single s at b of p 15; single t at c of p 12;", 3);
        d.fail(1, 0);
        total(d, 1, 0, 10, 0, 0, 2);
        d.undo();
        total(d, 0, 0, 10, 1, 2, 4);
    }

    static void promise23TotalOfTheLastOfSixBanks() {
        CoverDesk d = Check.desk("person p;bank k;bank l;bank m;bank n;bank o;bank r;plan s at r of p 5;");
        d.fail(5, 0);
        total(d, 5, 0, 5, 0, 0, 0);
    }

    static void promise23TotalOfTheLargestLost() {
        StringBuilder b = new StringBuilder("limit1;person p;bank b;");
        for (char c = 'a'; c <= 'x'; c++) {
            b.append("firm ").append(c).append("x at b of p100000000;");
        }
        CoverDesk d = Check.desk(b.toString());
        is("worst", d.worst(1), 2399999999L);
        d.fail(0, 0);
        total(d, 0, 0, 1, 0, 0, 2399999999L);
        is("the first INSURED", d.came(0, 0, 1), 1);
        d.undo();
        d.fail(0, 100000000);
        is("all that was there", d.total(2) + d.total(3) + d.total(5), 2400000000L);
        is("all of the ESTATE", d.total(3) + d.total(4), 100000000);
    }

    static void promise23TotalOfTheLargestPaid() {
        StringBuilder b = new StringBuilder("limit100000000;bank y;");
        for (char c = 'a'; c <= 'h'; c++) {
            b.append("person ").append(c).append(';');
        }
        for (char c = 'a'; c <= 'h'; c++) {
            b.append("single s").append(c).append(" at y of ").append(c).append("1;");
            b.append("plan p").append(c).append(" at y of ").append(c).append("1;");
            b.append("firm f").append(c).append(" at y of ").append(c).append("1;");
        }
        CoverDesk d = Check.desk(b.toString());
        for (int account = 0; account < 24; account++) {
            d.put(account, 99999999);
        }
        is("all INSURED", d.held(0, 1), 2400000000L);
        d.fail(0, 100000000);
        total(d, 0, 0, 2400000000L, 0, 100000000, 0);
    }

    static void promise23TotalOfTheLargestSetOff() {
        CoverDesk d = Check.desk("limit 1;person p;bank b;" + "loan p at b100000000;".repeat(10) + "single s at b of p100000000;");
        d.fail(0, 100000000);
        total(d, 0, 100000000, 0, 0, 0, 0);
        is("LOAN 0", d.loan(0, 2), 0);
        is("LOAN 1", d.loan(1, 2), 100000000);
    }

    // ---- promise 24: loan ----

    static void promise24LoanOfAnotherWhat() {
        CoverDesk d = Check.desk(HEAD + "loan q at c 7;");
        for (int what : new int[] {-1, -2, 3, 4, MIN, MAX}) {
            is("what " + what, d.loan(0, what), -1);
        }
        is("PERSON", d.loan(0, 0), 1);
        is("NOW AT", d.loan(0, 1), 1);
        is("COINS", d.loan(0, 2), 7);
    }

    static void promise24LoanOfNoSuch() {
        CoverDesk d = Check.desk(HEAD + "loan q at c 7; loan p at b 8;");
        for (int loan : new int[] {-1, -2, 2, 9, 10, MIN, MAX}) {
            for (int what = 0; what < 3; what++) {
                is("loan(" + loan + ", " + what + ")", d.loan(loan, what), -1);
            }
        }
        is("the last", d.loan(1, 2), 8);
    }

    static void promise24LoanOf0And100000000() {
        CoverDesk d = Check.desk(HEAD + "loan q at c 0; loan p at b 100000000;");
        is("0", d.loan(0, 2), 0);
        is("100000000", d.loan(1, 2), 100000000);
    }

    static void promise24LoanNowAtAsLongAsMerged() {
        CoverDesk d = Check.desk("grace 60; person p;bank k;bank l;bank m;bank n;bank o;bank r;loan p at k 1;");
        for (int bank = 0; bank < 5; bank++) {
            is("NOW AT", d.loan(0, 1), bank);
            d.merge(bank, bank + 1);
        }
        is("the last", d.loan(0, 1), 5);
        d.undo();
        is("undone", d.loan(0, 1), 4);
    }

    // ---- promise 32: worst ----

    static void promise32WorstOfAnotherWhat() {
        CoverDesk d = Check.desk(HEAD + "single s at c of p 15;");
        for (int what : new int[] {-1, -2, 2, 3, MIN, MAX}) {
            is("what " + what, d.worst(what), -1);
        }
        is("what 0", d.worst(0), 1);
        is("what 1", d.worst(1), 5);
    }

    static void promise32WorstOfNoBanks() {
        CoverDesk d = Check.desk("person p;");
        is("what 0", d.worst(0), -1);
        is("what 1", d.worst(1), -1);
    }

    static void promise32WorstOfNoneLeft() {
        CoverDesk d = Check.desk(HEAD + "single s at c of p 15;");
        d.merge(0, 1);
        is("one is left", d.worst(0), 1);
        d.fail(1, 0);
        is("what 0", d.worst(0), -1);
        is("what 1", d.worst(1), -1);
    }

    static void promise32WorstWhereNoneIsLost() {
        CoverDesk d = Check.desk(HEAD + "single s at c of p 10;");
        is("of several the first", d.worst(0), 0);
        is("0", d.worst(1), 0);
        d.fail(0, 0);
        is("the next one", d.worst(0), 1);
        is("0", d.worst(1), 0);
    }

    static void promise32WorstOfSeveralTheFirst() {
        CoverDesk d = Check.desk(HEAD + "bank e; single s at c of p 15; single t at e of q 15; single u at b of p 14;");
        is("of c and e", d.worst(0), 1);
        is("5", d.worst(1), 5);
        d.put(1, 1);
        is("one more at e", d.worst(0), 2);
        is("6", d.worst(1), 6);
        d.put(2, 2);
        is("of b and e", d.worst(0), 0);
        is("6", d.worst(1), 6);
    }

    static void promise32WorstWithLoansSetOff() {
        CoverDesk d = Check.desk(HEAD + "single s at b of p 15; single t at c of p 13; loan p at b 2;");
        is("3 and 3: the first", d.worst(0), 0);
        is("3", d.worst(1), 3);
        d.put(1, 1);
        is("3 and 4", d.worst(0), 1);
        d.pay(0, 1);
        is("4 and 4", d.worst(0), 0);
        d.pay(0, 1);
        is("5", d.worst(1), 5);
    }

    static void promise32WorstOfAnEstateOf0() {
        CoverDesk d = Check.desk(HEAD + "single s at b of p 15;");
        is("all of what is not INSURED", d.worst(1), 5);
        d.fail(0, 0);
        is("as it comes then", d.total(5), 5);
    }

    static void promise32WorstNowAndFromEndOn() {
        CoverDesk d = Check.desk(HEAD + "bank e; single s at b of p 10; single t at c of p 10; single u at e of p 15;");
        d.merge(0, 1);
        d.months(2);
        is("apart", d.worst(0), 2);
        is("5", d.worst(1), 5);
        d.months(1);
        is("together", d.worst(0), 1);
        is("10", d.worst(1), 10);
    }

    static void promise32WorstOfTheLastOfSixBanks() {
        CoverDesk d = Check.desk("limit 4;person p;bank k;bank l;bank m;bank n;bank o;bank r;plan s at r of p 5;");
        is("5", d.worst(0), 5);
        is("1", d.worst(1), 1);
        d.fail(5, 0);
        is("the first of those left", d.worst(0), 0);
    }

    static void promise32WorstChangesNothing() {
        CoverDesk d = Check.desk(HEAD + "single s at b of p 15; single t at c of p 17; loan p at c 20;");
        d.fail(0, 4);
        Shown before = new Shown(d);
        d.worst(0);
        d.worst(1);
        CHECK.same("worst", d, before);
        total(d, 0, 0, 10, 1, 3, 4);
    }
}
