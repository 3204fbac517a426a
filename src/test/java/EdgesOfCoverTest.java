/**
 * The boundary cases that the document names of what is insured: promises 15 to 21, with the Terms 2 that they stand on.
 * A test each, named after the promise and the case; answers worked out by hand from the document's sentences.
 */
public final class EdgesOfCoverTest {
    private static final Check CHECK = new Check();
    private static final int MIN = Integer.MIN_VALUE;
    private static final int MAX = Integer.MAX_VALUE;
    private static final String TWO = "person p; person q; bank b; bank c; ";

    private EdgesOfCoverTest() {
    }

    public static void main(String[] args) {
        Check.cases(EdgesOfCoverTest.class, CHECK);
    }

    private static void is(String call, long got, long due) {
        CHECK.is(call, got, due);
    }

    private static CoverDesk desk(String book) {
        return Check.desk("limit 10; grace 3; " + TWO + book);
    }

    /** As many firms of p at b, of so many coins each. */
    private static String firms(int n, int coins) {
        StringBuilder s = new StringBuilder("person p;bank b;");
        for (int i = 0; i < n; i++) {
            s.append("firm ").append((char) ('a' + i)).append("x at b of p").append(coins).append(';');
        }
        return s.toString();
    }

    // ---- promise 15: account ----

    static void promise15AccountOfAnotherWhat() {
        CoverDesk d = desk("single s at b of p 1;");
        for (int what : new int[] {-1, -2, 10, 11, MIN, MAX}) {
            is("what " + what, d.account(0, what), -2);
        }
        is("what 0", d.account(0, 0), 0);
        is("what 9", d.account(0, 9), -1);
    }

    static void promise15AccountOfNoSuch() {
        CoverDesk d = desk("single s at b of p 1; plan l at c of p 2;");
        for (int account : new int[] {-1, -2, 2, 23, 24, MIN, MAX}) {
            for (int what : new int[] {0, 4, 8, 9, 10, -1}) {
                is("account(" + account + ", " + what + ")", d.account(account, what), -2);
            }
        }
        is("the last", d.account(1, 4), 2);
    }

    static void promise15AccountsOf24() {
        CoverDesk d = Check.desk("limit 24;" + firms(24, 2));
        is("ACCOUNT 23", d.account(23, 4), 2);
        is("INSURED of it", d.account(23, 8), 1);
        is("no ACCOUNT 24", d.account(24, 4), -2);
    }

    static void promise15KindsFrom0To4() {
        CoverDesk d = desk("single s at b of p 1; joint j at b of p q 1; trust t at b of p for x 1; plan l at b of p 1;"
                + "firm f at b of p 1;");
        for (int account = 0; account < 5; account++) {
            is("KIND", d.account(account, 0), account);
        }
    }

    static void promise15OwnersHeirsAndTermWithout() {
        CoverDesk d = desk("single s at b of p 1; joint j at b of p q 1 term 60; trust t at b of p q for u v w x y z 1 term 1;");
        int[][] due = {{1, 0, 0}, {2, 0, 60}, {2, 6, 1}};
        for (int account = 0; account < 3; account++) {
            for (int what = 5; what < 8; what++) {
                is("account(" + account + ", " + what + ")", d.account(account, what), due[account][what - 5]);
            }
        }
    }

    static void promise15InsuredOfAllItsShares() {
        CoverDesk d = desk("joint j at b of p q 20; joint k at c of q p 21;");
        is("10 and 10, MOST each", d.account(0, 8), 20);
        is("11 and 10, one above", d.account(1, 8), 20);
        d.take(0, 20);
        is("of none", d.account(0, 8), 0);
        d.put(0, 1);
        is("1 and 0", d.account(0, 8), 1);
    }

    static void promise15NowAtTheLastOfSixBanks() {
        CoverDesk d = Check.desk("grace 1;person p;bank k;bank l;bank m;bank n;bank o;bank r;plan s at k of p 1;");
        for (int bank = 0; bank < 5; bank++) {
            is("NOW AT", d.account(0, 2), bank);
            d.merge(bank, bank + 1);
        }
        is("NOW AT the last", d.account(0, 2), 5);
        is("HOME", d.account(0, 1), 0);
        is("COUNTED AT", d.account(0, 3), 0);
        is("from which MONTH on", d.account(0, 9), 1);
        d.months(1);
        is("COUNTED AT the last at once", d.account(0, 3), 5);
        is("never again", d.account(0, 9), -1);
    }

    static void promise15NowAtABankThatFailed() {
        CoverDesk d = desk("single s at b of p 1;");
        d.merge(0, 1);
        d.fail(1, 0);
        is("NOW AT", d.account(0, 2), 1);
        is("COUNTED AT", d.account(0, 3), 0);
        is("COINS", d.account(0, 4), 0);
        is("INSURED", d.account(0, 8), 0);
        is("from which MONTH on", d.account(0, 9), 3);
    }

    static void promise15CountedAtBelowEndAndFromIt() {
        CoverDesk d = desk("single s at b of p 1;");
        d.months(2);
        d.merge(0, 1);
        int[][] due = {{0, 5}, {0, 5}, {0, 5}, {1, -1}, {1, -1}};
        for (int month = 2; month < 7; month++) {
            is("COUNTED AT in MONTH " + month, d.account(0, 3), due[month - 2][0]);
            is("from which MONTH on, in " + month, d.account(0, 9), due[month - 2][1]);
            d.months(1);
        }
    }

    static void promise15CountedAtWithoutAMerger() {
        CoverDesk d = desk("single s at b of p 1; single t at c of p 1;");
        is("HOME", d.account(0, 3), 0);
        is("never", d.account(0, 9), -1);
        d.merge(0, 1);
        is("of the one INTO which", d.account(1, 3), 1);
        is("never", d.account(1, 9), -1);
    }

    /** In which month the merger ends for an account of that term (0: none), if it was in that month with that grace. */
    private static void end(int month, int grace, int term, int due) {
        CoverDesk d = Check.desk("grace " + grace + ";" + TWO + "single s at b of p 1" + (term > 0 ? " term " + term : "") + ";");
        Check.pass(d, month);
        d.merge(0, 1);
        String call = "month " + month + ", grace " + grace + ", term " + term;
        is(call, d.account(0, 9), due);
        is(call + ", counted at", d.account(0, 3), due == -1 ? 1 : 0);
    }

    static void promise15EndOfMonthAndGrace() {
        end(0, 1, 0, 1);
        end(0, 60, 0, 60);
        end(7, 1, 0, 8);
        end(939, 60, 0, 999);
        end(940, 60, 0, 1000);
        end(999, 1, 0, 1000);
        end(999, 60, 0, 1059);
    }

    static void promise15EndOfGrace0IsAtOnce() {
        end(0, 0, 0, -1);
        end(1, 0, 0, -1);
        end(999, 0, 0, -1);
        end(5, 0, 5, -1);
        end(5, 0, 1, -1);
        end(60, 0, 60, -1);
    }

    static void promise15EndIsAbove0() {
        end(0, 0, 1, 1);
        end(0, 0, 2, 2);
        end(0, 0, 7, 7);
        end(0, 0, 60, 60);
    }

    static void promise15EndIsNotBelowWhatTheTermDivides() {
        // 11, 12, 13 of 12; 59, 60, 61 of 60
        end(8, 3, 12, 12);
        end(9, 3, 12, 12);
        end(10, 3, 12, 24);
        end(56, 3, 60, 60);
        end(57, 3, 60, 60);
        end(58, 3, 60, 120);
    }

    static void promise15EndOfTheLeastThatTheTermDivides() {
        int[] due = {5, 6, 6, 8, 5, 6, 7, 8, 9, 10};
        for (int term = 1; term <= 10; term++) {
            end(2, 3, term, due[term - 1]);
        }
        end(2, 3, 59, 59);
        end(2, 3, 60, 60);
    }

    static void promise15EndAbove999() {
        end(999, 0, 60, 1020);
        end(999, 60, 60, 1080);
        end(999, 0, 2, 1000);
        end(996, 3, 7, 1001);
        // 27 times 37 is 999
        end(996, 3, 27, 999);
        end(997, 3, 27, 1026);
    }

    static void promise15EndOfEachMergerOnItsWay() {
        CoverDesk d = Check.desk("grace 2; person p; bank b; bank c; bank e; single s at b of p 1; single t at b of p 1 term 4;");
        d.merge(0, 1);
        d.months(1);
        d.merge(1, 2);
        is("s leaves b in 2", d.account(0, 9), 2);
        is("t leaves b in 4", d.account(1, 9), 4);
        d.months(1);
        is("s at c", d.account(0, 3), 1);
        is("s leaves c in 3", d.account(0, 9), 3);
        d.months(1);
        is("s at e", d.account(0, 3), 2);
        is("s stays", d.account(0, 9), -1);
        is("t at b", d.account(1, 3), 0);
        d.months(1);
        is("t at e at once: both end in 4", d.account(1, 3), 2);
        is("t stays", d.account(1, 9), -1);
    }

    // ---- promise 16: owner ----

    static void promise16OwnerOfAnotherWhat() {
        CoverDesk d = desk("single s at b of q 1;");
        for (int what : new int[] {-1, -2, 3, 4, MIN, MAX}) {
            is("what " + what, d.owner(0, 0, what), -1);
        }
        is("what 0", d.owner(0, 0, 0), 1);
        is("what 2", d.owner(0, 0, 2), 1);
    }

    static void promise16OwnerOfNoSuch() {
        CoverDesk d = desk("single s at b of p 1; joint j at b of p q 1; trust t at b of p q for x 1;");
        int[] owners = {1, 2, 2};
        for (int account = 0; account < 3; account++) {
            for (int k : new int[] {-1, -2, owners[account], 4, 5, MIN, MAX}) {
                is("owner(" + account + ", " + k + ", 0)", d.owner(account, k, 0), -1);
            }
            is("the last", d.owner(account, owners[account] - 1, 0), owners[account] - 1);
        }
        for (int account : new int[] {-1, -2, 3, 24, MIN, MAX}) {
            is("of account " + account, d.owner(account, 0, 0), -1);
        }
    }

    static void promise16OwnerWho() {
        CoverDesk d = Check.desk("person p; person q; person r; person o; bank b; single s at b of r 1; joint j at b of o p r q 9;"
                + "trust t at b of q p for x 5; firm f at b of o 1;");
        int[][] due = {{2}, {3, 0, 2, 1}, {1, 0}, {3}};
        for (int account = 0; account < 4; account++) {
            for (int k = 0; k < due[account].length; k++) {
                is("owner(" + account + ", " + k + ", 0)", d.owner(account, k, 0), due[account][k]);
            }
        }
    }

    static void promise16OwnersOf24Accounts() {
        StringBuilder b = new StringBuilder("limit 24;person a;person b;person c;person d;bank y;");
        for (char c = 'a'; c <= 'x'; c++) {
            b.append("joint j").append(c).append(" at y of d c b a6;");
        }
        CoverDesk d = Check.desk(b.toString());
        // SHARES are 2, 2, 1, 1: d and c have 48 of MOST 24, b and a have 24
        for (int account = 0; account < 24; account++) {
            for (int k = 0; k < 4; k++) {
                is("SHARE of " + account + ", " + k, d.owner(account, k, 1), k < 2 ? 2 : 1);
                is("INSURED of " + account + ", " + k, d.owner(account, k, 2), 1);
            }
            is("no fifth", d.owner(account, 4, 0), -1);
        }
        is("of all", d.held(0, 1), 96);
    }

    private static void shares(String owners, int coins, int... due) {
        CoverDesk d = Check.desk("limit 100000000; person p; person q; person r; person o; bank b;" + owners + " " + coins + ";");
        for (int k = 0; k < due.length; k++) {
            is("share " + k + " of " + coins + ", " + owners, d.owner(0, k, 1), due[k]);
            is("insured " + k + " of " + coins + ", " + owners, d.owner(0, k, 2), due[k]);
        }
        is("no more", d.owner(0, due.length, 1), -1);
    }

    static void promise16ShareOf1Owner() {
        shares("single s at b of q", 0, 0);
        shares("single s at b of q", 1, 1);
        shares("firm s at b of q", 100000000, 100000000);
    }

    static void promise16ShareOf2Owners() {
        shares("joint j at b of q p", 0, 0, 0);
        shares("joint j at b of q p", 1, 1, 0);
        shares("joint j at b of q p", 2, 1, 1);
        shares("joint j at b of q p", 3, 2, 1);
        shares("joint j at b of q p", 99999999, 50000000, 49999999);
        shares("trust t at b of p q for x", 3, 2, 1);
        shares("trust t at b of p q for x", 4, 2, 2);
    }

    static void promise16ShareOf3Owners() {
        String owners = "joint j at b of r p q";
        shares(owners, 1, 1, 0, 0);
        shares(owners, 2, 1, 1, 0);
        shares(owners, 3, 1, 1, 1);
        shares(owners, 4, 2, 1, 1);
        shares(owners, 5, 2, 2, 1);
        shares(owners, 100000000, 33333334, 33333333, 33333333);
    }

    static void promise16ShareOf4Owners() {
        String owners = "joint j at b of r p q o";
        shares(owners, 0, 0, 0, 0, 0);
        shares(owners, 1, 1, 0, 0, 0);
        shares(owners, 3, 1, 1, 1, 0);
        shares(owners, 4, 1, 1, 1, 1);
        shares(owners, 5, 2, 1, 1, 1);
        shares(owners, 7, 2, 2, 2, 1);
        shares(owners, 99999999, 25000000, 25000000, 25000000, 24999999);
        shares(owners, 100000000, 25000000, 25000000, 25000000, 25000000);
    }

    /** What is insured of firms with these coins, all of one person at one bank. */
    private static void insured(int limit, int[] coins, int... due) {
        StringBuilder b = new StringBuilder("person p; bank b; limit " + limit + ";");
        for (int i = 0; i < coins.length; i++) {
            b.append("firm ").append((char) ('t' + i)).append(" at b of p ").append(coins[i]).append(';');
        }
        CoverDesk d = Check.desk(b.toString());
        for (int i = 0; i < coins.length; i++) {
            is("share " + i + " of " + b, d.owner(i, 0, 2), due[i]);
            is("account " + i + " of " + b, d.account(i, 8), due[i]);
        }
    }

    static void promise16InsuredOfAGroupBelowAtAndAboveMost() {
        insured(10, new int[] {9}, 9);
        insured(10, new int[] {10}, 10);
        insured(10, new int[] {11}, 10);
        insured(10, new int[] {4, 5}, 4, 5);
        insured(10, new int[] {4, 6}, 4, 6);
        // 50 by 11 is 4 rest 6, 60 by 11 is 5 rest 5
        insured(10, new int[] {5, 6}, 5, 5);
    }

    static void promise16InsuredWithNoCoinsLeft() {
        insured(10, new int[] {10, 10}, 5, 5);
        insured(10, new int[] {10, 20, 20}, 2, 4, 4);
    }

    static void promise16InsuredByTheGreatestRests() {
        // rests 8, 17, 17 of 21: two are left
        insured(10, new int[] {5, 8, 8}, 2, 4, 4);
        // rests 18, 17, 7: two are left
        insured(10, new int[] {6, 8, 7}, 3, 4, 3);
        // rests 1, 2, 2, 1 of 6, of LIMIT 1: one is left
        insured(1, new int[] {1, 2, 2, 1}, 0, 1, 0, 0);
    }

    static void promise16InsuredOfEqualRestsTheFirstAccount() {
        insured(10, new int[] {7, 7, 7}, 4, 3, 3);
        insured(11, new int[] {7, 7, 7}, 4, 4, 3);
        // 4 by 8 rest 4, 12 by 8 rest 4, 16 by 8 rest 0
        insured(4, new int[] {1, 3, 4}, 1, 1, 2);
        insured(4, new int[] {3, 1, 4}, 2, 0, 2);
        insured(4, new int[] {4, 3, 1}, 2, 2, 0);
    }

    static void promise16InsuredOf0Coins() {
        insured(1, new int[] {0}, 0);
        insured(1, new int[] {0, 0}, 0, 0);
        insured(1, new int[] {0, 1}, 0, 1);
        insured(1, new int[] {0, 2, 3}, 0, 0, 1);
        insured(1, new int[] {2, 0, 2}, 1, 0, 0);
    }

    static void promise16InsuredOfTheLargest() {
        insured(100000000, new int[] {100000000}, 100000000);
        // 10^16 by 100000001 is 99999999 rest 1, 10^8 by it is 0 rest 10^8
        insured(100000000, new int[] {100000000, 1}, 99999999, 1);
        insured(100000000, new int[] {100000000, 100000000, 1}, 50000000, 50000000, 0);
        insured(99999999, new int[] {100000000, 100000000}, 50000000, 49999999);
        insured(1, new int[] {100000000, 100000000}, 1, 0);
    }

    static void promise16InsuredOfTheLargestTrust() {
        // five unlike HEIRS: 500000000 of 600000000, five sixths of each
        CoverDesk d = Check.desk("limit 100000000;person p;bank y;trust a at y of p for u v w x z 100000000;"
                + "trust b at y of p for u 100000000;trust c at y of p for u 100000000;trust d at y of p for u 100000000;"
                + "trust e at y of p for u 100000000;trust f at y of p for u 100000000;");
        int[] due = {83333334, 83333334, 83333333, 83333333, 83333333, 83333333};
        for (int account = 0; account < 6; account++) {
            is("ACCOUNT " + account, d.owner(account, 0, 2), due[account]);
        }
        is("MOST", d.group(0, 2, 0, 0, 1), 500000000);
        is("INSURED", d.group(0, 2, 0, 0, 2), 500000000);
    }

    static void promise16InsuredOfOwnersByThemselves() {
        // p has 11 and 5 of MOST 10, q 10 and nothing else
        CoverDesk d = desk("joint j at b of p q 21; joint k at b of p q 9;");
        // p: 110 by 16 is 6 rest 14, 50 by 16 is 3 rest 2; q: 100 by 14 is 7 rest 2, 40 by 14 is 2 rest 12
        is("p in j", d.owner(0, 0, 2), 7);
        is("p in k", d.owner(1, 0, 2), 3);
        is("q in j", d.owner(0, 1, 2), 7);
        is("q in k", d.owner(1, 1, 2), 3);
    }

    static void promise16InsuredByKindAndBankApart() {
        CoverDesk d = desk("single s at b of p 10; single t at c of p 10; plan l at b of p 10; firm f at b of p 10;"
                + "single u at b of q 10; joint j at b of p q 20; trust r at b of p for x 10;");
        for (int account = 0; account < 7; account++) {
            is("all of ACCOUNT " + account, d.account(account, 8), d.account(account, 4));
        }
        d.merge(0, 1);
        d.months(2);
        is("before END", d.account(0, 8) + d.account(1, 8), 20);
        d.months(1);
        is("from END on", d.account(0, 8), 5);
        is("both", d.account(1, 8), 5);
        is("nobody else's", d.account(4, 8), 10);
    }

    // ---- promise 17: bank ----

    static void promise17BankOfAnotherWhat() {
        CoverDesk d = desk("");
        for (int what : new int[] {-1, -2, 5, 6, MIN, MAX}) {
            is("what " + what, d.bank(0, what), -2);
        }
        is("what 4", d.bank(0, 4), 0);
    }

    static void promise17BankOfNoSuch() {
        CoverDesk d = desk("");
        for (int bank : new int[] {-1, -2, 2, 5, 6, MIN, MAX}) {
            for (int what : new int[] {0, 1, 2, 3, 4, 5, -1}) {
                is("bank(" + bank + ", " + what + ")", d.bank(bank, what), -2);
            }
        }
        is("the last", d.bank(1, 0), -1);
    }

    static void promise17BankMergedOrNot() {
        CoverDesk d = desk("");
        is("INTO none", d.bank(1, 0), -1);
        is("in none", d.bank(1, 1), -1);
        d.merge(1, 0);
        is("INTO BANK 0", d.bank(1, 0), 0);
        is("in MONTH 0", d.bank(1, 1), 0);
        is("the other one INTO none", d.bank(0, 0), -1);
        is("the other one in none", d.bank(0, 1), -1);
        d.months(9);
        is("in MONTH 0 still", d.bank(1, 1), 0);
    }

    static void promise17BankFailedOrNot() {
        CoverDesk d = desk("");
        is("0", d.bank(1, 2), 0);
        d.fail(1, 0);
        is("1", d.bank(1, 2), 1);
        is("the other one", d.bank(0, 2), 0);
        is("INTO none", d.bank(1, 0), -1);
    }

    static void promise17BankOfNoAccountsAndOf24() {
        CoverDesk d = Check.desk(firms(24, 1) + "bank c;");
        is("NOW AT", d.bank(0, 3), 24);
        is("COUNTED AT", d.bank(0, 4), 24);
        is("NOW AT none", d.bank(1, 3), 0);
        is("COUNTED AT none", d.bank(1, 4), 0);
        d.merge(0, 1);
        is("NOW AT c", d.bank(1, 3), 24);
        is("NOW AT b", d.bank(0, 3), 0);
        d.months(5);
        is("COUNTED AT b", d.bank(0, 4), 24);
        is("COUNTED AT c", d.bank(1, 4), 0);
        d.months(1);
        is("COUNTED AT b", d.bank(0, 4), 0);
        is("COUNTED AT c", d.bank(1, 4), 24);
    }

    static void promise17BankOfAccountsWith0Coins() {
        CoverDesk d = desk("single s at b of p 0;");
        is("NOW AT", d.bank(0, 3), 1);
        d.fail(0, 0);
        is("FAILED: NOW AT", d.bank(0, 3), 1);
        is("FAILED: COUNTED AT", d.bank(0, 4), 1);
    }

    // ---- promise 18: held ----

    static void promise18HeldOfAnotherWhat() {
        CoverDesk d = desk("");
        for (int what : new int[] {-1, -2, 3, 4, MIN, MAX}) {
            is("what " + what, d.held(0, what), -1);
        }
        is("what 2", d.held(0, 2), 0);
    }

    static void promise18HeldOfNoSuch() {
        CoverDesk d = desk("single s at c of p 3;");
        for (int bank : new int[] {-1, -2, 2, 5, 6, MIN, MAX}) {
            for (int what : new int[] {0, 1, 2, 3}) {
                is("held(" + bank + ", " + what + ")", d.held(bank, what), -1);
            }
        }
        is("the last", d.held(1, 0), 3);
    }

    static void promise18HeldOfNone() {
        CoverDesk d = desk("single s at c of p 3; loan p at c 4;");
        for (int what = 0; what < 3; what++) {
            is("what " + what, d.held(0, what), 0);
        }
    }

    static void promise18HeldOfAllThereMayBe() {
        CoverDesk d = Check.desk("limit 99;person p;bank b;" + "loan p at b100000000;".repeat(10));
        is("LOANS", d.held(0, 2), 1000000000);
        d = Check.desk("limit 99;" + firms(24, 100000000));
        is("COINS", d.held(0, 0), 2400000000L);
        is("INSURED", d.held(0, 1), 99);
        d = Check.desk(firms(22, 99));
        is("all INSURED", d.held(0, 1), 22 * 99);
    }

    static void promise18HeldNowAtItCountedElsewhere() {
        CoverDesk d = desk("single s at b of p 15; single t at c of p 7; loan p at b 4; loan q at c 5;");
        d.merge(0, 1);
        d.months(2);
        is("COINS of both", d.held(1, 0), 22);
        is("INSURED apart", d.held(1, 1), 17);
        is("LOANS of both", d.held(1, 2), 9);
        for (int what = 0; what < 3; what++) {
            is("none at the MERGED one", d.held(0, what), 0);
        }
        d.months(1);
        is("INSURED together", d.held(1, 1), 10);
    }

    static void promise18HeldOfABankThatFailed() {
        CoverDesk d = desk("single s at b of p 15; loan p at b 40;");
        d.fail(0, 3);
        is("COINS", d.held(0, 0), 0);
        is("INSURED", d.held(0, 1), 0);
        is("what was not SET OFF", d.held(0, 2), 25);
    }

    // ---- promise 19: group ----

    static void promise19GroupOfAnotherWhat() {
        CoverDesk d = desk("single s at b of p 12;");
        for (int what : new int[] {-1, -2, 4, 5, MIN, MAX}) {
            is("what " + what, d.group(0, 0, 0, 0, what), -1);
            is("what " + what + " of none", d.group(1, 0, 0, 0, what), -1);
        }
        int[] due = {12, 10, 10, 1};
        for (int what = 0; what < 4; what++) {
            is("what " + what, d.group(0, 0, 0, 0, what), due[what]);
        }
    }

    static void promise19GroupOfNoSuch() {
        CoverDesk d = desk("firm f at c of q 12;");
        for (int n : new int[] {-1, -2, MIN, MAX}) {
            is("person " + n, d.group(n, 4, 1, 0, 0), -1);
            is("kind " + n, d.group(1, n, 1, 0, 0), -1);
            is("bank " + n, d.group(1, 4, n, 0, 0), -1);
            is("month " + n, d.group(1, 4, 1, n, 0), -1);
        }
        is("person 2", d.group(2, 4, 1, 0, 0), -1);
        is("person 10", d.group(10, 4, 1, 0, 0), -1);
        is("kind 5", d.group(1, 5, 1, 0, 0), -1);
        is("bank 2", d.group(1, 4, 2, 0, 0), -1);
        is("bank 6", d.group(1, 4, 6, 0, 0), -1);
        is("the last of each", d.group(1, 4, 1, 0, 0), 12);
    }

    static void promise19GroupInAMonthFrom0To999() {
        CoverDesk d = desk("firm f at c of q 12;");
        is("0", d.group(1, 4, 1, 0, 0), 12);
        is("999", d.group(1, 4, 1, 999, 0), 12);
        is("1000", d.group(1, 4, 1, 1000, 0), -1);
        is("-1", d.group(1, 4, 1, -1, 0), -1);
        Check.pass(d, 999);
        is("0 in MONTH 999", d.group(1, 4, 1, 0, 0), 12);
        is("1000 in MONTH 999", d.group(1, 4, 1, 1000, 0), -1);
    }

    static void promise19GroupWithoutAccounts() {
        CoverDesk d = desk("firm f at c of q 12; trust t at c of q for x 5;");
        for (int kind = 0; kind < 5; kind++) {
            for (int what = 0; what < 4; what++) {
                is("kind " + kind + ", what " + what, d.group(0, kind, 1, 0, what), 0);
            }
        }
    }

    static void promise19GroupOfAnAccountWith0Coins() {
        CoverDesk d = desk("firm f at c of q 0; trust t at c of q for x y 0; joint j at c of p q 1;");
        int[][] due = {{0, 10, 0, 1}, {0, 20, 0, 1}, {0, 10, 0, 1}};
        int[] kinds = {4, 2, 1};
        for (int i = 0; i < 3; i++) {
            for (int what = 0; what < 4; what++) {
                is("kind " + kinds[i] + ", what " + what, d.group(1, kinds[i], 1, 0, what), due[i][what]);
            }
        }
    }

    static void promise19GroupBelowAtAndAboveMost() {
        CoverDesk d = desk("firm f at b of p 3; firm g at b of p 6;");
        is("9", d.group(0, 4, 0, 0, 2), 9);
        d.put(1, 1);
        is("10", d.group(0, 4, 0, 0, 2), 10);
        d.put(1, 1);
        is("11", d.group(0, 4, 0, 0, 2), 10);
        is("together", d.group(0, 4, 0, 0, 0), 11);
        is("ACCOUNTS", d.group(0, 4, 0, 0, 3), 2);
        is("MOST", d.group(0, 4, 0, 0, 1), 10);
    }

    static void promise19GroupOf24Accounts() {
        CoverDesk d = Check.desk("limit 100000000;" + firms(24, 100000000));
        is("together", d.group(0, 4, 0, 0, 0), 2400000000L);
        is("INSURED", d.group(0, 4, 0, 0, 2), 100000000);
        is("ACCOUNTS", d.group(0, 4, 0, 0, 3), 24);
    }

    static void promise19GroupCountedAtFromEndOn() {
        CoverDesk d = desk("single s at b of p 4; single t at c of p 5 term 7;");
        d.months(2);
        d.merge(1, 0);
        // s counts at b always, t from 7 on
        int[][] due = {{0, 4, 5}, {2, 4, 5}, {6, 4, 5}, {7, 9, 0}, {8, 9, 0}, {999, 9, 0}};
        for (int[] row : due) {
            is("at b in " + row[0], d.group(0, 0, 0, row[0], 0), row[1]);
            is("at c in " + row[0], d.group(0, 0, 1, row[0], 0), row[2]);
        }
    }

    static void promise19GroupWithAccountsAsTheyAre() {
        CoverDesk d = desk("single s at b of p 4;");
        d.months(5);
        d.put(0, 3);
        is("in a MONTH ahead of it", d.group(0, 0, 0, 0, 0), 7);
        is("in one behind", d.group(0, 0, 0, 999, 0), 7);
    }

    private static void most(String trusts, int due) {
        is("p's MOST of " + trusts, desk(trusts).group(0, 2, 0, 0, 1), due);
    }

    static void promise19MostOfTrustBy1To6Heirs() {
        most("trust t at b of p for u 99;", 10);
        most("trust t at b of p for u v 99;", 20);
        most("trust t at b of p for u v w x 99;", 40);
        most("trust t at b of p for u v w x y 99;", 50);
        most("trust t at b of p for u v w x y z 99;", 50);
        CoverDesk d = desk("trust t at b of p for u v w x y z 49;");
        is("49 of 50", d.account(0, 8), 49);
        d.put(0, 1);
        is("50 of 50", d.account(0, 8), 50);
        d.put(0, 1);
        is("51 of 50", d.account(0, 8), 50);
    }

    static void promise19MostOfTrustByHeirsOfAllThese() {
        most("trust t at b of p for u v 9; trust r at b of p for w x 0;", 40);
        most("trust t at b of p for u v 9; trust r at b of p for w x y 0;", 50);
        most("trust t at b of p for u v w 9; trust r at b of p for x y z 0;", 50);
        most("trust t at b of p for u v 9; trust r at b of p for v u 0;", 20);
        most("trust t at b of p for u v 9; trust r at b of p for v w 0;", 30);
        most("trust t at b of p for u v w x y 9; trust r at b of p for u 0; trust s at b of p for z 0;", 50);
    }

    static void promise19MostOfTrustOfTheseAlone() {
        most("trust t at b of p for u 9; trust r at c of p for v 9;", 10);
        most("trust t at b of p for u 9; trust r at b of q for v 9;", 10);
        most("trust t at b of p for u 9; trust r at b of q p for v 9;", 20);
        CoverDesk d = desk("trust t at b of p for u 9; trust r at c of p for v 9;");
        d.merge(1, 0);
        is("before END", d.group(0, 2, 0, 2, 1), 10);
        is("from END on", d.group(0, 2, 0, 3, 1), 20);
    }

    static void promise19MostOfTrustWithTheOwnName() {
        most("trust t at b of p for p 99;", 10);
        most("trust t at b of p for p u 99;", 10);
        most("trust t at b of p for u p v 99;", 20);
        most("trust t at b of p for p u v w x y 99;", 50);
        most("trust t at b of p for p 9; trust r at b of p for p 9;", 10);
        most("trust t at b of p for p 9; trust r at b of p for p u v 9;", 20);
        CoverDesk d = desk("trust t at b of p q for p 99; trust r at c of p q for p q 99;");
        is("p at b: none at all", d.group(0, 2, 0, 0, 1), 10);
        is("q at b: p", d.group(1, 2, 0, 0, 1), 10);
        is("p at c: q", d.group(0, 2, 1, 0, 1), 10);
        is("q at c: p", d.group(1, 2, 1, 0, 1), 10);
    }

    static void promise19MostOfTrustWithTheNameOfOneOwner() {
        CoverDesk d = desk("trust t at b of p q for p x 60; trust r at c of p q for q y 60;");
        int[][] due = {{10, 20}, {20, 10}};
        for (int bank = 0; bank < 2; bank++) {
            for (int person = 0; person < 2; person++) {
                is("MOST of " + person + " at " + bank, d.group(person, 2, bank, 0, 1), due[bank][person]);
                is("INSURED of " + person + " at " + bank, d.group(person, 2, bank, 0, 2), due[bank][person]);
                is("of the SHARE", d.owner(bank, person, 2), due[bank][person]);
            }
            is("of the ACCOUNT", d.account(bank, 8), 30);
        }
    }

    static void promise19MostOfTrustOfTheLastAccount() {
        CoverDesk d = Check.desk("person p;bank b;limit 10;" + "trust z at b of p for u v 9;");
        is("a BOOK before", d.group(0, 2, 0, 0, 1), 20);
        Check.book(d, "limit 10;" + firms(23, 1) + "trust zz at b of p for p w x y a aa 99;");
        is("ACCOUNTS", d.look(2), 24);
        is("HEIRS", d.account(23, 6), 6);
        is("5 of them", d.group(0, 2, 0, 0, 1), 50);
        is("INSURED", d.account(23, 8), 50);
        Check.book(d, "limit 10;" + firms(22, 1) + "trust yy at b of p for h i 9;trust zz at b of p for i h j 99;");
        is("3 of both", d.group(0, 2, 0, 0, 1), 30);
        is("both ACCOUNTS", d.group(0, 2, 0, 0, 3), 2);
    }

    static void promise19MostOfOthersIsLimit() {
        CoverDesk d = desk("single s at b of p 1; single t at b of p 1; joint j at b of p q 1; plan l at b of p 1;"
                + "firm f at b of p 1; trust r at b of p for u v w 1;");
        for (int kind : new int[] {0, 1, 3, 4}) {
            is("kind " + kind, d.group(0, kind, 0, 0, 1), 10);
        }
    }

    // ---- promise 20: of ----

    static void promise20OfAnotherWhat() {
        CoverDesk d = desk("single s at b of p 12;");
        for (int what : new int[] {-1, -2, 3, 4, MIN, MAX}) {
            is("what " + what, d.of(0, 0, what), -1);
        }
        int[] due = {12, 10, 2};
        for (int what = 0; what < 3; what++) {
            is("what " + what, d.of(0, 0, what), due[what]);
        }
    }

    static void promise20OfNoSuch() {
        CoverDesk d = desk("single s at b of q 12;");
        for (int person : new int[] {-1, -2, 2, 9, 10, MIN, MAX}) {
            is("person " + person, d.of(person, 0, 0), -1);
        }
        is("the last", d.of(1, 0, 0), 12);
    }

    static void promise20OfAMonthFrom0To999() {
        CoverDesk d = desk("single s at b of p 12;");
        for (int month : new int[] {-1, -2, 1000, MIN, MAX}) {
            is("month " + month, d.of(0, month, 0), -1);
        }
        is("0", d.of(0, 0, 0), 12);
        is("999", d.of(0, 999, 0), 12);
    }

    static void promise20OfAPersonWithoutAccounts() {
        CoverDesk d = desk("single s at b of p 12;");
        for (int what = 0; what < 3; what++) {
            is("what " + what, d.of(1, 0, what), 0);
        }
    }

    static void promise20OfTheMonthOfEnd() {
        CoverDesk d = desk("single s at b of p 9; single t at c of p 2; joint j at c of q p 3;");
        d.merge(0, 1);
        is("SHARES", d.of(0, 2, 0), 12);
        is("all INSURED in 2", d.of(0, 2, 1), 12);
        is("in 2", d.of(0, 2, 2), 0);
        is("SHARES in 3", d.of(0, 3, 0), 12);
        is("10 and 1 INSURED in 3", d.of(0, 3, 1), 11);
        is("in 3", d.of(0, 3, 2), 1);
    }

    static void promise20OfTheLargest() {
        CoverDesk d = Check.desk("limit 1;" + firms(24, 100000000));
        is("SHARES", d.of(0, 0, 0), 2400000000L);
        is("INSURED", d.of(0, 0, 1), 1);
        is("not INSURED", d.of(0, 0, 2), 2399999999L);
    }

    // ---- promise 21: warns ----

    static void promise21WarnsOfNoSuch() {
        CoverDesk d = desk("single s at b of q 9; single t at c of q 2;");
        d.merge(0, 1);
        for (int person : new int[] {-1, -2, 2, 9, 10, MIN, MAX}) {
            is("person " + person, d.warns(person), -1);
        }
        is("the last", d.warns(1), 3);
        is("another one", d.warns(0), -1);
    }

    static void promise21WarnsAboveWhatItIsNow() {
        CoverDesk d = desk("single s at b of p 8; single t at c of p 2;");
        d.merge(0, 1);
        is("10 of 10", d.warns(0), -1);
        d.put(0, 1);
        is("11 of 10", d.warns(0), 3);
        d.put(0, 1);
        d.put(1, 8);
        is("20 of 10", d.warns(0), 3);
        d.take(1, 10);
        is("10 of 10 again", d.warns(0), -1);
    }

    /** Trusts come together in 6 (10 not insured are 5 then), singles in 12 (then it is 5 and that much above 10). */
    private static void down(int coins, int due) {
        CoverDesk d = Check.desk("limit 10;" + TWO + "trust t at b of p for x 5; trust r at c of p for y 20;"
                + "single s at b of p 10 term 12; single u at c of p " + coins + ";");
        d.merge(0, 1);
        is("now", d.of(0, 0, 2), 10);
        is("in 6", d.of(0, 6, 2), 5);
        is("in 12", d.of(0, 12, 2), 5 + coins);
        is("warns", d.warns(0), due);
        d.months(6);
        is("from there on", d.warns(0), 12);
    }

    static void promise21WarnsOfOneThatIsLessFirst() {
        down(4, -1);
        down(5, -1);
        down(6, 12);
    }

    static void promise21WarnsOfTheFirstOfSeveral() {
        CoverDesk d = desk("single s at b of p 8; single t at b of p 2 term 5; single u at c of p 8;");
        d.merge(0, 1);
        is("in 3", d.warns(0), 3);
        d.months(3);
        is("in 5", d.warns(0), 5);
        d.months(2);
        is("none any more", d.warns(0), -1);
    }

    static void promise21WarnsOfTheFirstWhateverAccountItIs() {
        CoverDesk d = desk("single s at b of p 8 term 5; single t at b of p 2; single u at c of p 9;");
        d.merge(0, 1);
        is("t in 3", d.warns(0), 3);
        d.months(3);
        is("s in 5", d.warns(0), 5);
    }

    static void promise21WarnsAboveNow() {
        CoverDesk d = desk("single s at b of p 8; single u at c of p 8;");
        d.merge(0, 1);
        d.months(2);
        is("one MONTH ahead", d.warns(0), 3);
        d.months(1);
        is("in that MONTH", d.warns(0), -1);
    }

    static void promise21WarnsUpTo999() {
        CoverDesk d = Check.desk("limit 10; grace 60;" + TWO + "single s at b of p 8; single u at c of p 8;");
        Check.pass(d, 938);
        d.merge(0, 1);
        is("998", d.warns(0), 998);
        d.undo();
        d.months(1);
        d.merge(0, 1);
        is("999", d.warns(0), 999);
        d.undo();
        d.months(1);
        d.merge(0, 1);
        is("1000", d.warns(0), -1);
        is("of the ACCOUNT", d.account(0, 9), 1000);
    }

    static void promise21WarnsInMonth999() {
        CoverDesk d = desk("single s at b of p 8; single u at c of p 8;");
        Check.pass(d, 999);
        d.merge(0, 1);
        is("1002", d.warns(0), -1);
    }
}
