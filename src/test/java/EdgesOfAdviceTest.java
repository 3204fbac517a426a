/**
 * The boundary cases that the document names of what one had best do: promises 25 to 31. A test each, named after the
 * promise and the case; answers worked out by hand from the document's sentences.
 */
public final class EdgesOfAdviceTest {
    private static final Check CHECK = new Check();
    private static final int MIN = Integer.MIN_VALUE;
    private static final int MAX = Integer.MAX_VALUE;
    private static final long NOT = Long.MIN_VALUE;
    private static final String HEAD = "limit 10; grace 3; person p; person q; bank b; bank c; ";
    private static final String SIX = "limit 10;grace 3;person p;bank k;bank l;bank m;bank n;bank o;bank r;";

    private EdgesOfAdviceTest() {
    }

    public static void main(String[] args) {
        Check.cases(EdgesOfAdviceTest.class, CHECK);
    }

    private static void is(String call, long got, long due) {
        CHECK.is(call, got, due);
    }

    /** EXCESS less ROOM, the lesser of both, the BANK with the greatest ROOM. */
    private static void moves(CoverDesk d, long... due) {
        for (int what = 0; what < 3; what++) {
            is("moves(0, " + what + ")", d.moves(0, what), due[what]);
        }
    }

    /** From where, to where, COINS of each. */
    private static void move(CoverDesk d, long... due) {
        is("how many", d.move(0, -1, 0), due.length / 3);
        for (int i = 0; i < due.length; i++) {
            is("move(0, " + i / 3 + ", " + i % 3 + ")", d.move(0, i / 3, i % 3), due[i]);
        }
        is("no more", d.move(0, due.length / 3, 0), -1);
    }

    // ---- promise 25: moves ----

    static void promise25MovesOfAnotherWhat() {
        CoverDesk d = Check.desk(HEAD + "single s at b of p 12;");
        for (int what : new int[] {-1, -2, 3, 4, MIN, MAX}) {
            is("what " + what, d.moves(0, what), -1);
        }
        moves(d, 0, 2, 1);
    }

    static void promise25MovesOfNoSuch() {
        CoverDesk d = Check.desk(HEAD + "single s at b of q 12;");
        for (int person : new int[] {-1, -2, 2, 9, 10, MIN, MAX}) {
            for (int what = 0; what < 3; what++) {
                is("moves(" + person + ", " + what + ")", d.moves(person, what), -1);
            }
        }
        is("the last", d.moves(1, 1), 2);
    }

    static void promise25MovesWithoutBanks() {
        moves(Check.desk("person p;"), 0, 0, -1);
    }

    static void promise25MovesBelowAtAndAboveLimit() {
        String head = "limit 10; person p; bank b; single s at b of p ";
        moves(Check.desk(head + "9;"), 0, 0, 0);
        moves(Check.desk(head + "10;"), 0, 0, -1);
        moves(Check.desk(head + "11;"), 1, 0, -1);
    }

    static void promise25MovesOfExcessBelowAtAndAboveRoom() {
        moves(Check.desk(HEAD + "single s at b of p 19;"), 0, 9, 1);
        moves(Check.desk(HEAD + "single s at b of p 20;"), 0, 10, 1);
        moves(Check.desk(HEAD + "single s at b of p 21;"), 1, 10, 1);
    }

    static void promise25RoomWithoutAGroup() {
        moves(Check.desk(HEAD), 0, 0, 0);
        moves(Check.desk(HEAD + "single s at b of p 30; single t at c of p 0;"), 10, 10, 1);
        moves(Check.desk(HEAD + "single s at b of p 30; single t at c of p 1;"), 11, 9, 1);
    }

    static void promise25RoomGreatestOfSeveralTheFirst() {
        moves(Check.desk(HEAD + "single s at b of p 4; single t at c of p 4;"), 0, 0, 0);
        moves(Check.desk(HEAD + "single s at b of p 4; single t at c of p 5;"), 0, 0, 0);
        moves(Check.desk(HEAD + "single s at b of p 5; single t at c of p 4;"), 0, 0, 1);
        moves(Check.desk(HEAD + "single s at b of p 10; single t at c of p 9;"), 0, 0, 1);
        moves(Check.desk(HEAD + "single s at b of p 10; single t at c of p 10;"), 0, 0, -1);
    }

    static void promise25RoomAtTheLastOfSixBanks() {
        moves(Check.desk(SIX + "single a at k of p 70;"), 10, 50, 1);
        moves(Check.desk(SIX + "single a at k of p 60;single b at l of p 1;single c at m of p 1;single d at n of p 1;"
                + "single e at o of p 1;"), 4, 46, 5);
    }

    static void promise25RoomNotAtAMergedBank() {
        CoverDesk d = Check.desk(HEAD + "single s at b of p 4; single t at c of p 12;");
        moves(d, 0, 2, 0);
        d.merge(0, 1);
        // 4 count at b still, but b has no ROOM any more
        moves(d, 2, 0, -1);
        d.months(3);
        moves(d, 6, 0, -1);
    }

    static void promise25ExcessAtAMergedBank() {
        CoverDesk d = Check.desk(HEAD + "single s at b of p 14; single t at c of p 7;");
        d.merge(0, 1);
        d.months(2);
        moves(d, 1, 3, 1);
        d.months(1);
        // 21 at c now
        moves(d, 11, 0, -1);
    }

    static void promise25RoomNotAtABankThatFailed() {
        CoverDesk d = Check.desk(HEAD + "single s at b of p 4; single t at c of p 12;");
        d.fail(0, 0);
        moves(d, 2, 0, -1);
        d.fail(1, 0);
        moves(d, 0, 0, -1);
    }

    static void promise25MovesOfSingleGroupsAlone() {
        moves(Check.desk(HEAD + "plan l at b of p 99; firm f at b of p 99; joint j at b of p q 99;"
                + "trust t at b of p for x 99; single u at b of q 99;"), 0, 0, 0);
    }

    static void promise25MovesOfTheLargest() {
        StringBuilder b = new StringBuilder("limit1;person p;bank b;");
        for (char c = 'a'; c <= 'x'; c++) {
            b.append("single ").append(c).append("x at b of p99999999;");
        }
        moves(Check.desk(b.toString()), 2399999975L, 0, -1);
        moves(Check.desk("limit 100000000;person p;bank k;bank l;bank m;bank n;bank o;bank r;single a at r of p 100000000;"
                + "single b at r of p 100000000;single c at r of p 100000000;single d at r of p 100000000;"
                + "single e at r of p 100000000;single f at r of p 100000000;single g at r of p 1;"), 1, 500000000, 0);
    }

    // ---- promise 26: move ----

    static void promise26MoveOfAnotherWhat() {
        CoverDesk d = Check.desk(HEAD + "single s at b of p 12;");
        for (int what : new int[] {-1, -2, 3, 4, MIN, MAX}) {
            is("what " + what, d.move(0, 0, what), -1);
        }
        move(d, 0, 1, 2);
    }

    static void promise26MoveHowManyWhateverWhat() {
        CoverDesk d = Check.desk(HEAD + "single s at b of p 12;");
        for (int what : new int[] {-1, -2, 0, 2, 3, 4, MIN, MAX}) {
            is("what " + what, d.move(0, -1, what), 1);
        }
    }

    static void promise26MoveOfNoSuch() {
        CoverDesk d = Check.desk(HEAD + "single s at b of q 12;");
        for (int person : new int[] {-1, -2, 2, 9, 10, MIN, MAX}) {
            is("how many of " + person, d.move(person, -1, 0), -1);
            is("the first of " + person, d.move(person, 0, 0), -1);
        }
        for (int i : new int[] {-2, 1, 2, MIN, MAX}) {
            is("the " + i + "-th", d.move(1, i, 0), -1);
        }
        is("the first", d.move(1, 0, 2), 2);
        is("none of p", d.move(0, -1, 0), 0);
        is("no first of p", d.move(0, 0, 0), -1);
    }

    static void promise26MoveWithoutExcessOrRoom() {
        move(Check.desk("person p;"));
        move(Check.desk(HEAD));
        move(Check.desk(HEAD + "single s at b of p 10; single t at c of p 9;"));
        move(Check.desk(HEAD + "single s at b of p 11; single t at c of p 10;"));
        move(Check.desk(HEAD + "single s at b of p 11; single t at c of p 9;"), 0, 1, 1);
    }

    static void promise26MoveAsMuchAsBothHave() {
        // EXCESS 5 at b; ROOM 4, 5, 6 at c, 10 at e
        String head = HEAD + "bank e; single s at b of p 15; single t at c of p ";
        move(Check.desk(head + "6;"), 0, 1, 4, 0, 2, 1);
        move(Check.desk(head + "5;"), 0, 1, 5);
        move(Check.desk(head + "4;"), 0, 1, 5);
    }

    static void promise26MoveAsMuchAsRoomHas() {
        move(Check.desk(HEAD + "single s at b of p 19;"), 0, 1, 9);
        move(Check.desk(HEAD + "single s at b of p 20;"), 0, 1, 10);
        move(Check.desk(HEAD + "single s at b of p 21;"), 0, 1, 10);
    }

    static void promise26MoveBankByBank() {
        move(Check.desk(HEAD + "bank e; bank f; single s at b of p 13; single t at c of p 14; single u at e of p 5;"),
                0, 2, 3, 1, 2, 2, 1, 3, 2);
        // the first one that has ROOM stands ahead of them
        move(Check.desk(HEAD + "bank e; bank f; single s at c of p 13; single t at f of p 19;"),
                1, 0, 3, 3, 0, 7, 3, 2, 2);
    }

    static void promise26MoveOfTheMostThereMayBe() {
        move(Check.desk(SIX + "single a at k of p 60;"), 0, 1, 10, 0, 2, 10, 0, 3, 10, 0, 4, 10, 0, 5, 10);
        move(Check.desk(SIX + "single a at l of p 12;single b at m of p 12;single c at n of p 12;single d at o of p 12;"
                + "single e at r of p 12;"), 1, 0, 2, 2, 0, 2, 3, 0, 2, 4, 0, 2, 5, 0, 2);
        move(Check.desk(SIX + "single a at k of p 13;single b at l of p 13;single c at m of p 13;single d at n of p 8;"
                + "single e at o of p 8;single f at r of p 8;"), 0, 3, 2, 0, 4, 1, 1, 4, 1, 1, 5, 2);
    }

    static void promise26MoveNotToAMergedBankButFromIt() {
        CoverDesk d = Check.desk(HEAD + "bank e; single s at b of p 15; single t at e of p 9;");
        d.merge(0, 1);
        move(d, 0, 1, 5);
        d.undo();
        d.merge(1, 0);
        move(d, 0, 2, 1);
        d.fail(2, 0);
        move(d);
    }

    static void promise26MoveChangesNothing() {
        CoverDesk d = Check.desk(HEAD + "single s at b of p 15;");
        Shown before = new Shown(d);
        d.move(0, -1, 0);
        d.move(0, 0, 2);
        CHECK.same("move", d, before);
        move(d, 0, 1, 5);
    }

    // ---- promise 27: bestKind ----

    static void promise27BestKindOfNoSuchOrAnotherKind() {
        CoverDesk d = Check.desk(HEAD + "single s at b of p 1; joint j at b of p q 1; trust t at b of p for x 1;"
                + "plan l at b of p 1; firm f at b of p 1;");
        int[] due = {0, -1, -1, 3, 4};
        for (int account = 0; account < 5; account++) {
            is("account " + account, d.bestKind(account), due[account]);
        }
        for (int account : new int[] {-1, -2, 5, 23, 24, MIN, MAX}) {
            is("account " + account, d.bestKind(account), -1);
        }
    }

    static void promise27BestKindBelowAtAndAboveLimit() {
        // 10 of 10 as single ones; 11 of 10
        is("10", Check.desk(HEAD + "single s at b of p 4; single t at b of p 6;").bestKind(0), 0);
        is("11", Check.desk(HEAD + "single s at b of p 5; single t at b of p 6;").bestKind(0), 3);
        is("11 alone", Check.desk(HEAD + "single s at b of p 11;").bestKind(0), 0);
        is("0 COINS", Check.desk(HEAD + "firm s at b of p 0; firm t at b of p 60;").bestKind(0), 4);
    }

    static void promise27BestKindOfSeveralTheOneThatItIs() {
        is("single", Check.desk(HEAD + "single s at b of p 9;").bestKind(0), 0);
        is("plan", Check.desk(HEAD + "plan s at b of p 9;").bestKind(0), 3);
        is("firm", Check.desk(HEAD + "firm s at b of p 9;").bestKind(0), 4);
        // single and firm are as good: 9 each; as a plan it were 10 of 18
        is("firm, not single", Check.desk(HEAD + "firm s at b of p 9; plan t at b of p 9;").bestKind(0), 4);
    }

    static void promise27BestKindElseTheFirst() {
        String s = " s at b of p 8;";
        is("single, plan as good", Check.desk(HEAD + "firm" + s + "firm t at b of p 8;").bestKind(0), 0);
        is("plan, firm as good", Check.desk(HEAD + "single" + s + "single t at b of p 8;").bestKind(0), 3);
        is("single, firm as good", Check.desk(HEAD + "plan" + s + "plan t at b of p 8;").bestKind(0), 0);
        is("firm alone", Check.desk(HEAD + "single" + s + "single t at b of p 8; plan u at b of p 3;").bestKind(0), 4);
        is("plan by one coin", Check.desk(HEAD + "single" + s + "single t at b of p 8; plan u at b of p 3;"
                + "firm v at b of p 4;").bestKind(0), 3);
        is("firm by one coin", Check.desk(HEAD + "single" + s + "single t at b of p 8; plan u at b of p 4;"
                + "firm v at b of p 3;").bestKind(0), 4);
    }

    static void promise27BestKindNow() {
        CoverDesk d = Check.desk(HEAD + "single s at b of p 8; single t at c of p 8;");
        d.merge(0, 1);
        d.months(2);
        is("before END", d.bestKind(0), 0);
        d.months(1);
        is("from END on", d.bestKind(0), 3);
        is("it stays what it is", d.account(0, 0), 0);
    }

    // ---- promise 28: change ----

    static void promise28ChangeOfNoSuch() {
        CoverDesk d = Check.desk(HEAD + "single s at b of p 8; single t at b of p 8 term 5;");
        is("none", d.change(-1), 0);
        is("no first", d.change(0), -1);
        d.merge(0, 1);
        is("two", d.change(-1), 2);
        is("the first", d.change(0), 3);
        is("the last", d.change(1), 5);
        for (int i : new int[] {2, 3, -2, -3, 999, 1000, MIN, MAX}) {
            is("i " + i, d.change(i), -1);
        }
    }

    static void promise28ChangeWithoutAccountsThere() {
        CoverDesk d = Check.desk(HEAD + "single s at c of p 8;");
        d.merge(0, 1);
        is("none", d.change(-1), 0);
        is("no first", d.change(0), -1);
    }

    static void promise28ChangeOfSeveralInOneMonth() {
        CoverDesk d = Check.desk(HEAD + "single s at b of p 8; plan t at b of q 0; firm u at b of p 8 term 3; joint j at b of p q 1;");
        d.merge(0, 1);
        is("one", d.change(-1), 1);
        is("which", d.change(0), 3);
    }

    static void promise28ChangeAboveNow() {
        CoverDesk d = Check.desk(HEAD + "single s at b of p 8; single t at b of p 8 term 5;");
        d.merge(0, 1);
        d.months(2);
        is("one MONTH ahead", d.change(0), 3);
        d.months(1);
        is("in that MONTH", d.change(0), 5);
        is("one", d.change(-1), 1);
        d.months(2);
        is("in the last", d.change(-1), 0);
    }

    static void promise28ChangeOfAChain() {
        CoverDesk d = Check.desk(HEAD + "bank e; single s at b of p 8; single t at b of p 8 term 4;");
        d.merge(0, 1);
        d.months(1);
        d.merge(1, 2);
        // s in 3 and 4; t over both in 4
        is("two", d.change(-1), 2);
        is("3", d.change(0), 3);
        is("4", d.change(1), 4);
    }

    static void promise28ChangeByMonthsNotByAccounts() {
        CoverDesk d = Check.desk(HEAD + "single s at b of p 8 term 9; single t at b of p 8 term 5; single u at b of q 1;"
                + "plan l at b of p 1 term 7;");
        d.merge(0, 1);
        int[] due = {3, 5, 7, 9};
        is("four", d.change(-1), 4);
        for (int i = 0; i < 4; i++) {
            is("i " + i, d.change(i), due[i]);
        }
    }

    static void promise28ChangeAtOnce() {
        CoverDesk d = Check.desk("grace 0; person p; bank b; bank c; single s at b of p 1; single t at b of p 1 term 7;");
        d.months(1);
        d.merge(0, 1);
        is("s has changed already", d.change(-1), 1);
        is("t in 7", d.change(0), 7);
    }

    static void promise28ChangeUpTo999() {
        CoverDesk d = Check.desk(HEAD + "single s at b of p 8; single t at b of p 8 term 2; single u at b of p 8 term 37;");
        Check.pass(d, 995);
        d.merge(0, 1);
        // 998, 998, 999
        is("two", d.change(-1), 2);
        is("998", d.change(0), 998);
        is("999", d.change(1), 999);
        d.undo();
        d.months(1);
        d.merge(0, 1);
        // 999, 1000, 999
        is("one", d.change(-1), 1);
        is("999", d.change(0), 999);
        is("1000 is none", d.change(1), -1);
        d.undo();
        d.months(1);
        d.merge(0, 1);
        is("1000 and more", d.change(-1), 0);
        is("none", d.change(0), -1);
    }

    static void promise28ChangeInMonth999() {
        CoverDesk d = Check.desk(HEAD + "single s at b of p 8;");
        Check.pass(d, 999);
        d.merge(0, 1);
        is("none", d.change(-1), 0);
        is("no first", d.change(0), -1);
    }

    static void promise28ChangeOf24Accounts() {
        StringBuilder b = new StringBuilder("grace 31;person p;bank b;bank z;");
        for (int i = 0; i < 24; i++) {
            b.append("firm ").append((char) ('a' + i)).append("x at b of p1 term").append(31 + i).append(';');
        }
        CoverDesk d = new CoverDesk();
        is("24", Check.book(d, b.toString()), 24);
        d.merge(0, 1);
        is("24 MONTHS", d.change(-1), 24);
        for (int i = 0; i < 24; i++) {
            is("i " + i, d.change(i), 31 + i);
        }
        is("no more", d.change(24), -1);
    }

    // ---- promise 29: rank ----

    static void promise29RankOfNoSuch() {
        CoverDesk d = Check.desk(HEAD);
        is("0", d.rank(0), 0);
        is("1", d.rank(1), 1);
        for (int i : new int[] {2, 3, 9, 10, -1, -2, MIN, MAX}) {
            is("rank " + i, d.rank(i), -1);
        }
        is("without PEOPLE", Check.desk("bank b;").rank(0), -1);
    }

    static void promise29RankOfSeveralTheFirst() {
        CoverDesk d = Check.desk(HEAD + "single s at b of p 12; single t at b of q 12;");
        is("as much", d.rank(0), 0);
        is("as much", d.rank(1), 1);
        d.put(1, 1);
        is("one more", d.rank(0), 1);
        is("one less", d.rank(1), 0);
        d.put(0, 2);
        is("one more again", d.rank(0), 0);
    }

    static void promise29RankByWhatIsNotInsured() {
        CoverDesk d = Check.desk(HEAD + "single s at b of p 10; plan l at b of p 10; single t at b of q 11;");
        is("20 INSURED", d.rank(1), 0);
        is("1 not INSURED", d.rank(0), 1);
    }

    static void promise29RankOfTen() {
        StringBuilder b = new StringBuilder("limit 1;bank z;");
        for (char c = 'a'; c <= 'j'; c++) {
            b.append("person ").append(c).append(';');
        }
        for (int i = 0; i < 10; i++) {
            b.append("firm ").append((char) ('a' + i)).append("x at z of ").append((char) ('a' + i)).append(i / 2).append(';');
        }
        CoverDesk d = Check.desk(b.toString());
        // not INSURED: 0 0 0 0 1 1 2 2 3 3
        int[] due = {8, 9, 6, 7, 4, 5, 0, 1, 2, 3};
        for (int i = 0; i < 10; i++) {
            is("rank " + i, d.rank(i), due[i]);
        }
        is("rank 10", d.rank(10), -1);
    }

    static void promise29RankNowAndFromEndOn() {
        CoverDesk d = Check.desk(HEAD + "single s at b of q 10; single t at c of q 10; single u at c of p 19;");
        d.merge(0, 1);
        d.months(2);
        is("9 and 0", d.rank(0), 0);
        d.months(1);
        is("9 and 10", d.rank(0), 1);
    }

    // ---- promise 30: asKind ----

    static void promise30AsKindOfNoSuch() {
        CoverDesk d = Check.desk(HEAD + "single s at b of p 1;");
        for (int account : new int[] {-1, -2, 1, 23, 24, MIN, MAX}) {
            is("account " + account, d.asKind(account, 3), NOT);
        }
        for (int kind : new int[] {-1, -2, 5, 6, MIN, MAX}) {
            is("kind " + kind, d.asKind(0, kind), NOT);
        }
        is("plan", d.asKind(0, 3), 0);
    }

    static void promise30AsKindOfEach() {
        CoverDesk d = Check.desk(HEAD + "single s at b of p 1; joint j at b of p q 1; trust t at b of p for x 1;"
                + "plan l at b of p 1; firm f at b of p 1;");
        long[][] due = {{NOT, NOT, NOT, 0, 0}, {NOT, NOT, NOT, NOT, NOT}, {NOT, NOT, NOT, NOT, NOT},
            {0, NOT, NOT, NOT, 0}, {0, NOT, NOT, 0, NOT}};
        for (int account = 0; account < 5; account++) {
            for (int kind = 0; kind < 5; kind++) {
                is("asKind(" + account + ", " + kind + ")", d.asKind(account, kind), due[account][kind]);
            }
        }
    }

    static void promise30AsKindBelowAtAndAbove0() {
        // 13 single of 10, as many plans
        String head = HEAD + "single s at b of p 5; single t at b of p 8; plan l at b of p ";
        is("13 of 10, or 8 and 10", Check.desk(head + "5;").asKind(0, 3), 3);
        is("with a plan of 7: 10 and 7, or 8 and 10", Check.desk(head + "7;").asKind(0, 3), 1);
        is("with one of 8", Check.desk(head + "8;").asKind(0, 3), 0);
        is("with one of 9", Check.desk(head + "9;").asKind(0, 3), -1);
        is("with one of 10", Check.desk(head + "10;").asKind(0, 3), -2);
    }

    static void promise30AsKindOfTheLargest() {
        CoverDesk d = Check.desk("limit 100000000; person p; bank b; single s at b of p 100000000; firm f at b of p 100000000;");
        is("all of it less", d.asKind(0, 4), -100000000);
        is("as much", d.asKind(0, 3), 0);
        d = Check.desk("limit 100000000; person p; bank b; single s at b of p 100000000; single t at b of p 100000000;");
        is("all of it more", d.asKind(0, 3), 100000000);
    }

    static void promise30AsKindOfTheLastOf24Accounts() {
        StringBuilder b = new StringBuilder("limit 30;person p;bank b;");
        for (char c = 'a'; c <= 'x'; c++) {
            b.append("plan ").append(c).append("x at b of p9;");
        }
        CoverDesk d = Check.desk(b.toString());
        // 216 of 30; one of 9 by itself is all INSURED
        is("single", d.asKind(23, 0), 9);
        is("firm", d.asKind(23, 4), 9);
        is("no ACCOUNT 24", d.asKind(24, 0), NOT);
        is("best", d.bestKind(23), 0);
        is("none", d.bestKind(24), -1);
    }

    static void promise30AsKindNowAndChangingNothing() {
        CoverDesk d = Check.desk(HEAD + "single s at b of p 8; single t at c of p 8;");
        d.merge(0, 1);
        d.months(2);
        is("before END", d.asKind(0, 3), 0);
        d.months(1);
        Shown before = new Shown(d);
        is("from END on", d.asKind(0, 3), 6);
        is("a firm", d.asKind(0, 4), 6);
        CHECK.same("asKind", d, before);
    }

    // ---- promise 31: heirMore ----

    static void promise31HeirMoreOfNoSuchOrNoTrust() {
        CoverDesk d = Check.desk(HEAD + "single s at b of p 99; joint j at b of p q 99; plan l at b of p 99; firm f at b of p 99;"
                + "trust t at b of p for x 99;");
        for (int account : new int[] {-1, -2, 0, 1, 2, 3, 5, 23, 24, MIN, MAX}) {
            is("account " + account, d.heirMore(account), -1);
        }
        is("the trust", d.heirMore(4), 10);
    }

    static void promise31HeirMoreBy1To6Heirs() {
        String[] heirs = {"u", "u v", "u v w", "u v w x", "u v w x y", "u v w x y z"};
        int[] due = {10, 10, 10, 10, 0, -1};
        for (int i = 0; i < 6; i++) {
            CoverDesk d = Check.desk(HEAD + "trust t at b of p for " + heirs[i] + " 99;");
            is(heirs[i], d.heirMore(0), due[i]);
        }
    }

    static void promise31HeirMoreOf5HeirsWithTheOwnName() {
        CoverDesk d = Check.desk(HEAD + "trust t at b of p for p v w x y 99;");
        is("four count", d.heirMore(0), 10);
        d = Check.desk(HEAD + "trust t at b of p for p 99;");
        is("none counts, 1 is told: 1 then", d.heirMore(0), 0);
        d = Check.desk(HEAD + "trust t at b of p for p v w x y z 99;");
        is("it has 6", d.heirMore(0), -1);
    }

    private static void heirMore(int coins, int due) {
        CoverDesk d = Check.desk(HEAD + "trust t at b of p for x y " + coins + ";");
        is("of " + coins, d.heirMore(0), due);
    }

    static void promise31HeirMoreBelowAtAndAboveMost() {
        heirMore(0, 0);
        heirMore(19, 0);
        heirMore(20, 0);
        heirMore(21, 1);
        heirMore(29, 9);
        heirMore(30, 10);
        heirMore(31, 10);
    }

    static void promise31HeirMoreOfAllPeople() {
        // 31 and 30 of 20, of 30 then
        is("both", Check.desk(HEAD + "trust t at b of p q for x y 61;").heirMore(0), 20);
        // 21 and 20 of 20
        is("one of them", Check.desk(HEAD + "trust t at b of p q for x y 41;").heirMore(0), 1);
        is("another trust of the GROUP", Check.desk(HEAD + "trust t at b of p for x y 0; trust r at b of p for x 25;")
                .heirMore(0), 5);
        is("another GROUP", Check.desk(HEAD + "trust t at b of p for x y 0; trust r at c of p for x 25;").heirMore(0), 0);
        is("5 of the GROUP already", Check.desk(HEAD + "trust t at b of p for x y 99; trust r at b of p for u v w 99;")
                .heirMore(0), 0);
    }

    static void promise31HeirMoreWithTheNameOfOneOwner() {
        // p: x of 30, q: p and x of 30; one more for each
        CoverDesk d = Check.desk(HEAD + "trust t at b of p q for p x 60;");
        is("10 for each", d.heirMore(0), 20);
        // p has none, which is as good as one; q has p
        d = Check.desk(HEAD + "trust t at c of q p for p 60;");
        is("10 for q alone", d.heirMore(0), 10);
    }

    static void promise31HeirMoreOfANameThatNobodyHas() {
        CoverDesk d = Check.desk(HEAD + "trust t at b of p for x 99; trust r at b of p for a z h aa 0;");
        is("5 already", d.heirMore(0), 0);
        d = Check.desk(HEAD + "trust t at b of p for x 99; trust r at b of p for a z h 0;");
        is("the fifth", d.heirMore(0), 10);
        is("of the other one, too", d.heirMore(1), 10);
    }

    static void promise31HeirMoreChangesNothing() {
        CoverDesk d = Check.desk(HEAD + "trust t at b of p for u v w x y 99; trust r at b of q for x 50;");
        Shown before = new Shown(d);
        d.heirMore(0);
        d.heirMore(1);
        CHECK.same("heirMore", d, before);
        is("again", d.heirMore(1), 10);
    }

    static void promise31HeirMoreOfTheLargest() {
        is("LIMIT", Check.desk("limit 100000000; person p; bank b; trust t at b of p for x 100000000;"
                + "trust r at b of p for x 100000000;").heirMore(0), 100000000);
    }
}
