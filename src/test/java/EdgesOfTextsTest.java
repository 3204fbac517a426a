/**
 * The boundary cases that the document names of texts: promises 1 to 7 and 33, with the Terms 1 that they stand on. A
 * test each, named after the promise and the case; answers worked out by hand from the document's sentences.
 */
public final class EdgesOfTextsTest {
    private static final Check CHECK = new Check();
    private static final int MIN = Integer.MIN_VALUE;
    private static final int MAX = Integer.MAX_VALUE;
    private static final int[] WRONG_WHATS = {-1, -2, MIN, MAX};
    private static final String[] NO_NAMES = {"person", "bank", "limit", "grace", "at", "of", "for", "term", "loan",
        "single", "joint", "trust", "plan", "firm", "put", "take", "merge", "into", "months", "pay", "fail"};
    private static final String BASE = "person p; person q; person r; bank b; bank c; ";
    private static final String PEOPLE_9 = "person a;person b;person c;person d;person e;person f;person g;person h;person i;";
    private static final String BANKS_5 = "bank aa;bank bb;bank cc;bank dd;bank ee;";
    private static final String DAYS = BASE + "single s at b of p 50; joint j at c of p q 8; loan p at b 5;";

    private EdgesOfTextsTest() {
    }

    public static void main(String[] args) {
        Check.cases(EdgesOfTextsTest.class, CHECK);
    }

    private static void is(String call, long got, long due) {
        CHECK.is(call, got, due);
    }

    private static void yes(String call, boolean got) {
        CHECK.yes(call, got);
    }

    private static void no(String call, boolean got) {
        CHECK.no(call, got);
    }

    /** The sign ^ stands where the fault is due; without a sign none is due. */
    private static void fault(boolean day, String text, int due) {
        CoverDesk d = day ? Check.desk(DAYS) : new CoverDesk();
        int place = text.indexOf('^');
        Check.tell(d, place < 0 ? text : text.substring(0, place) + text.substring(place + 1));
        int got = day ? d.day() : d.book();
        is((day ? "day " : "book ") + text, got < 0 ? -1 : 0, due == 0 ? 0 : -1);
        is("the fault of " + text, d.fault(0), due);
        is("the place of " + text, d.fault(1), place);
        is("the tape behind " + text, d.look(8), 0);
    }

    private static void books(int due, String... texts) {
        for (String text : texts) {
            fault(false, text, due);
        }
    }

    private static void days(int due, String... texts) {
        for (String text : texts) {
            fault(true, text, due);
        }
    }

    /** As many firms of p at b, of one or two letters, of one coin each. */
    private static String firms(int n) {
        StringBuilder s = new StringBuilder("person p;bank b;");
        for (int i = 0; i < n; i++) {
            s.append("firm ").append((char) ('a' + i)).append("x at b of p1;");
        }
        return s.toString();
    }

    private static String loans(int n) {
        return "person p;bank b;" + "loan p at b1;".repeat(n);
    }

    // ---- promise 1 ----

    static void promise1NothingIsTold() {
        CoverDesk d = new CoverDesk();
        int[] due = {0, 0, 0, 0, 0, 250000, 6, 0, 0, 0};
        for (int what = 0; what < due.length; what++) {
            is("look(" + what + ")", d.look(what), due[what]);
        }
        is("fault(0)", d.fault(0), 0);
        is("fault(1)", d.fault(1), -1);
        no("undo", d.undo());
    }

    static void promise1NothingToAskOf() {
        CoverDesk d = new CoverDesk();
        for (int n : new int[] {0, -1, 1, MIN, MAX}) {
            is("account " + n, d.account(n, 0), -2);
            is("owner " + n, d.owner(n, 0, 0), -1);
            is("bank " + n, d.bank(n, 0), -2);
            is("held " + n, d.held(n, 0), -1);
            is("group " + n, d.group(n, 0, 0, 0, 0), -1);
            is("of " + n, d.of(n, 0, 0), -1);
            is("warns " + n, d.warns(n), -1);
            is("came " + n, d.came(n, 0, 0), -1);
            is("total " + n, d.total(n), -1);
            is("loan " + n, d.loan(n, 0), -1);
            is("moves " + n, d.moves(n, 0), -1);
            is("move " + n, d.move(n, -1, 0), -1);
            is("bestKind " + n, d.bestKind(n), -1);
            is("change " + n, d.change(n), n == -1 ? 0 : -1);
            is("rank " + n, d.rank(n), -1);
            is("asKind " + n, d.asKind(n, 3), Long.MIN_VALUE);
            is("heirMore " + n, d.heirMore(n), -1);
            is("worst " + n, d.worst(n), -1);
        }
    }

    static void promise1NothingToBeDone() {
        CoverDesk d = new CoverDesk();
        no("put", d.put(0, 1));
        no("take", d.take(0, 1));
        no("merge", d.merge(0, 1));
        no("pay", d.pay(0, 1));
        no("fail", d.fail(0, 0));
        is("nothing to undo", d.look(7), 0);
        yes("months go by all the same", d.months(1));
        is("month", d.look(4), 1);
    }

    // ---- promise 2 ----

    static void promise2FeedOfTwentyBytes() {
        CoverDesk d = new CoverDesk();
        is("the first twenty", d.feed(0, 0, 0, 0, 0), 20);
        is("twenty more", d.feed(0, 0, 0, 0, 0), 40);
        is("how many there are", d.look(8), 40);
    }

    static void promise2FeedFourOfEachNumberTheHighestFirst() {
        for (int n = 0; n < 5; n++) {
            for (int k = 0; k < 4; k++) {
                int[] five = {0x20202020, 0x20202020, 0x20202020, 0x20202020, 0x20202020};
                five[n] ^= ('7' ^ ' ') << (24 - 8 * k);
                CoverDesk d = new CoverDesk();
                d.feed(five[0], five[1], five[2], five[3], five[4]);
                d.book();
                is("number " + n + ", byte " + k, d.fault(1), 4 * n + k);
            }
        }
    }

    static void promise2FeedOfNumbersBelow0() {
        // each of these begins with a byte above 127, which can't stand anywhere; a blank is of 32 alone
        for (int n : new int[] {-1, -2, MIN, 0x80202020, 0xa0202020, 0xff202020}) {
            CoverDesk d = new CoverDesk();
            d.feed(0x20202020, n, 0x20202020, 0x20202020, 0x20202020);
            d.book();
            is("fault of " + n, d.fault(0), 1);
            is("place of " + n, d.fault(1), 4);
        }
        CoverDesk d = new CoverDesk();
        d.feed(0x20202020, MAX, 0, 0, 0);
        d.book();
        is("the largest: 127 first", d.fault(1), 4);
        d.feed(0x2020200a, 0x0a20207f, 0, 0, 0);
        d.book();
        is("127 last", d.fault(1), 7);
    }

    static void promise2FeedUpTo700() {
        CoverDesk d = new CoverDesk();
        for (int i = 1; i <= 34; i++) {
            d.feed(0, 0, 0, 0, 0);
        }
        is("680 are there", d.look(8), 680);
        is("700 are not more than 700", d.feed(0, 0, 0, 0, 0), 700);
        is("more than 700", d.feed(0, 0, 0, 0, 0), -1);
        is("still 700", d.look(8), 700);
    }

    static void promise2FeedOneBelowAndOneAbove680() {
        CoverDesk d = new CoverDesk();
        for (int i = 1; i <= 35; i++) {
            d.feed(0, 0, 0, 0, 0);
        }
        d.end(681);
        is("there would be 701", d.feed(0, 0, 0, 0, 0), -1);
        is("none come", d.look(8), 681);
        d.end(680);
        is("there would be 700", d.feed(0, 0, 0, 0, 0), 700);
        d.end(679);
        is("there would be 699", d.feed(0, 0, 0, 0, 0), 699);
        is("there would be 719", d.feed(0, 0, 0, 0, 0), -1);
    }

    static void promise2FeedRefusedChangesNoByte() {
        CoverDesk d = new CoverDesk();
        Check.tell(d, " ".repeat(672) + "limit 77;");
        is("681 bytes", d.look(8), 681);
        is("refused", d.feed(0x78787878, 0x78787878, 0x78787878, 0x78787878, 0x78787878), -1);
        is("the text is read as it stood", d.book(), 0);
        is("all of it", d.look(5), 77);
    }

    // ---- promise 3 ----

    static void promise3EndOfAnEmptyTape() {
        CoverDesk d = new CoverDesk();
        yes("0 of 0", d.end(0));
        no("1 of 0", d.end(1));
        no("-1 of 0", d.end(-1));
        no("the smallest", d.end(MIN));
        no("the largest", d.end(MAX));
        is("still none", d.look(8), 0);
    }

    static void promise3EndOfAsManyAsThereAre() {
        CoverDesk d = new CoverDesk();
        d.feed(0, 0, 0, 0, 0);
        no("one above", d.end(21));
        is("20", d.look(8), 20);
        yes("all", d.end(20));
        is("20 then", d.look(8), 20);
        yes("one below", d.end(19));
        is("19 then", d.look(8), 19);
        no("as many as there were", d.end(20));
        is("19 still", d.look(8), 19);
        yes("1", d.end(1));
        yes("0", d.end(0));
        no("1 of 0", d.end(1));
    }

    static void promise3EndOf700() {
        CoverDesk d = new CoverDesk();
        for (int i = 1; i <= 35; i++) {
            d.feed(0, 0, 0, 0, 0);
        }
        no("701 of 700", d.end(701));
        yes("700 of 700", d.end(700));
        yes("699 of 700", d.end(699));
        no("700 of 699", d.end(700));
    }

    static void promise3EndRefusedChangesNothing() {
        CoverDesk d = Check.desk("person longname;");
        Check.tell(d, "longname");
        for (int n : new int[] {-1, -2, MIN, 9, MAX}) {
            no("end(" + n + ")", d.end(n));
            is("how many", d.look(8), 8);
        }
        is("the same bytes", d.named(0), 0);
    }

    static void promise3EndLeavesTheFirstBytesAlone() {
        CoverDesk d = Check.desk("person a;person ab;person abc;person b;");
        Check.tell(d, "abc");
        d.end(2);
        is("the first two", d.named(0), 1);
        Check.tell(d, "abc");
        d.end(1);
        is("the first", d.named(0), 0);
        Check.tell(d, "abc");
        d.end(0);
        is("none", d.named(0), -1);
        Check.tell(d, "cab");
        d.end(0);
        Check.tell(d, "b");
        is("what comes then comes behind them", d.named(0), 3);
    }

    // ---- promise 4: how many, and how many there may be ----

    static void promise4BookOfNothing() {
        CoverDesk d = Check.desk(DAYS);
        is("an empty tape", d.book(), 0);
        for (int what = 0; what < 4; what++) {
            is("look(" + what + ")", d.look(what), 0);
        }
        is("no fault", d.fault(0), 0);
        is("no place", d.fault(1), -1);
        is("blanks alone", Check.book(d, " \n"), 0);
    }

    static void promise4PeopleAre10AtMost() {
        CoverDesk d = Check.desk(PEOPLE_9);
        is("9", d.look(0), 9);
        is("PERSON 8", d.of(8, 0, 0), 0);
        is("no PERSON 9", d.of(9, 0, 0), -1);
        d = Check.desk(PEOPLE_9 + "person j;");
        is("10", d.look(0), 10);
        is("PERSON 9", d.of(9, 0, 0), 0);
        is("no PERSON 10", d.of(10, 0, 0), -1);
        books(5, PEOPLE_9 + "person j;person ^k;", PEOPLE_9 + "person j;bank bb;person ^k");
    }

    static void promise4BanksAre6AtMost() {
        CoverDesk d = Check.desk(BANKS_5);
        is("5", d.look(1), 5);
        is("no BANK 5", d.bank(5, 0), -2);
        d = Check.desk(BANKS_5 + "bank ff;");
        is("6", d.look(1), 6);
        is("BANK 5", d.bank(5, 0), -1);
        is("no BANK 6", d.bank(6, 0), -2);
        books(5, BANKS_5 + "bank ff;bank ^gg;", BANKS_5 + "bank ff;person p;bank ^gg");
    }

    static void promise4AccountsAre24AtMost() {
        CoverDesk d = new CoverDesk();
        is("23", Check.book(d, firms(23)), 23);
        is("no ACCOUNT 23", d.account(23, 0), -2);
        is("24", Check.book(d, firms(24)), 24);
        is("ACCOUNT 23", d.account(23, 0), 4);
        is("no ACCOUNT 24", d.account(24, 0), -2);
        is("look(2)", d.look(2), 24);
        for (String kind : new String[] {"single", "joint", "trust", "plan", "firm"}) {
            books(5, firms(24) + kind + " ^zz at b of p1;");
        }
    }

    static void promise4LoansAre10AtMost() {
        CoverDesk d = Check.desk(loans(9));
        is("9", d.look(3), 9);
        is("no LOAN 9", d.loan(9, 0), -1);
        d = Check.desk(loans(10));
        is("10", d.look(3), 10);
        is("LOAN 9", d.loan(9, 2), 1);
        is("no LOAN 10", d.loan(10, 0), -1);
        books(5, loans(10) + "^loan p at b1;");
    }

    static void promise4NumberedAsTold() {
        CoverDesk d = Check.desk("bank z; person y; firm x at z of y 1; bank w; person v; plan u at w of v 2;"
                + "loan v at z 3; loan y at w 4;");
        is("the first BANK", Check.named(d, "z", 1), 0);
        is("the second", Check.named(d, "w", 1), 1);
        is("the first PERSON", Check.named(d, "y", 0), 0);
        is("the second", Check.named(d, "v", 0), 1);
        is("the first ACCOUNT", Check.named(d, "x", 2), 0);
        is("the second", Check.named(d, "u", 2), 1);
        is("the first LOAN", d.loan(0, 2), 3);
        is("the second", d.loan(1, 2), 4);
    }

    static void promise4InPlaceOfAllThatWasTold() {
        CoverDesk d = Check.desk("limit 5; grace 0;" + BASE
                + "single s at b of p 9 term 7; trust t at c of q for x y 4; loan p at b 3;");
        d.months(3);
        d.merge(0, 1);
        d.fail(1, 1);
        is("another one", Check.book(d, "person y; bank z; bank zz; firm f at z of y 4;"), 1);
        int[] due = {1, 2, 1, 0, 0, 250000, 6, 0, 0, 0};
        for (int what = 0; what < due.length; what++) {
            is("look(" + what + ")", d.look(what), due[what]);
        }
        is("no merger", d.bank(0, 0), -1);
        is("in no MONTH", d.bank(0, 1), -1);
        is("BANK 0 not FAILED", d.bank(0, 2), 0);
        is("BANK 1 not FAILED", d.bank(1, 2), 0);
        is("none failed yet", d.total(0), -1);
        is("none came", d.came(0, 0, 0), -1);
        is("KIND", d.account(0, 0), 4);
        is("no term", d.account(0, 7), 0);
        is("no ACCOUNT of before", Check.named(d, "s", 2), -1);
        is("no PERSON of before", Check.named(d, "p", 0), -1);
        is("no BANK of before", Check.named(d, "b", 1), -1);
        is("COINS", d.account(0, 4), 4);
    }

    static void promise4FaultChangesNothingElse() {
        CoverDesk d = Check.desk("limit 5; grace 1;" + BASE + "single s at b of p 9 term 7; trust t at c of q r for x 4;"
                + "loan p at b 3;");
        Check.day(d, "months 3; put 1 s;");
        d.merge(0, 1);
        d.fail(1, 1);
        Shown before = new Shown(d);
        is("a fault at the very end", Check.book(d, "limit 9; grace 9; person y; bank z; firm f at z of y 4; loan y at z 5"), -1);
        CHECK.same("a BOOK with a fault", d, before);
        is("told by the latest day", d.look(9), 2);
        is("empty with a fault, too", d.look(8), 0);
    }

    static void promise4FaultLeavesWhatCanBeUndone() {
        CoverDesk d = Check.desk(DAYS);
        d.put(0, 1);
        is("a fault", Check.book(d, "x"), -1);
        is("one can be undone", d.look(7), 1);
        yes("undo", d.undo());
        is("COINS", d.account(0, 4), 50);
    }

    static void promise4TapeOf700Bytes() {
        CoverDesk d = new CoverDesk();
        Check.tell(d, " ".repeat(691) + "limit 77;");
        is("700", d.look(8), 700);
        is("read to the end", d.book(), 0);
        is("LIMIT", d.look(5), 77);
        Check.tell(d, " ".repeat(692) + "limit 78");
        is("no ; any more", d.book(), -1);
        is("at the end", d.fault(1), 700);
        Check.tell(d, "x".repeat(700));
        is("one WORD", d.book(), -1);
        is("at its begin", d.fault(1), 0);
        Check.tell(d, " ".repeat(20) + "limit " + "1".repeat(674));
        is("one N", d.book(), -1);
        is("at its begin", d.fault(1), 26);
    }

    static void promise4TapeOf700BytesThatEndsInAWord() {
        for (String word : new String[] {"p", "perso", "person", "limi", "abcdefgh", "abcdefghi", "loan"}) {
            CoverDesk d = new CoverDesk();
            Check.tell(d, " ".repeat(700 - word.length()) + word);
            is(word, d.book(), -1);
            is("fault of " + word, d.fault(0), 1);
            boolean begins = word.equals("person") || word.equals("loan");
            is("place of " + word, d.fault(1), begins ? 700 : 700 - word.length());
        }
    }

    static void promise4TapeOf700BytesThatEndsInAnN() {
        CoverDesk d = new CoverDesk();
        Check.tell(d, " ".repeat(690) + "limit 1234");
        is("no ;", d.book(), -1);
        is("at the end", d.fault(1), 700);
        Check.tell(d, " ".repeat(690) + "limit1234;");
        is("with it", d.book(), 0);
        is("LIMIT", d.look(5), 1234);
    }

    // ---- promise 4: what stands in a book ----

    static void promise4LimitAtFirst() {
        for (int coins : new int[] {249999, 250000, 250001}) {
            CoverDesk d = Check.desk("person p; bank b; single s at b of p " + coins + ";");
            is("INSURED of " + coins, d.account(0, 8), Math.min(coins, 250000));
        }
    }

    static void promise4GraceAtFirst() {
        CoverDesk d = Check.desk("person p; bank b; bank c; single s at b of p 1;");
        d.merge(0, 1);
        is("MONTH 5", d.group(0, 0, 0, 5, 0), 1);
        is("MONTH 6", d.group(0, 0, 0, 6, 0), 0);
        is("MONTH 6 there", d.group(0, 0, 1, 6, 0), 1);
    }

    static void promise4LimitFrom1To100000000() {
        books(4, "limit ^0;", "limit ^000000000;", "limit ^100000001;", "limit ^999999999;");
        books(0, "limit 1;", "limit 2;", "limit 99999999;", "limit 100000000;");
        CoverDesk d = Check.desk("limit 1;");
        is("1", d.look(5), 1);
        Check.book(d, "limit 100000000;");
        is("100000000", d.look(5), 100000000);
    }

    static void promise4GraceFrom0To60() {
        books(0, "grace 0;", "grace 1;", "grace 59;", "grace 60;");
        books(4, "grace ^61;", "grace ^100000000;", "grace ^999999999;");
        CoverDesk d = Check.desk("grace 0;");
        is("0", d.look(6), 0);
        Check.book(d, "grace 60;");
        is("60", d.look(6), 60);
    }

    static void promise4LimitAndGraceToldLast() {
        CoverDesk d = Check.desk("limit 5; grace 1; person p; limit 7; bank b; grace 2; single s at b of p 9; limit 6;");
        is("LIMIT", d.look(5), 6);
        is("GRACE", d.look(6), 2);
        is("for what was told ahead, too", d.account(0, 8), 6);
    }

    static void promise4CoinsFrom0To100000000() {
        String[] heads = {"single s at b of p ", "joint s at b of p q ", "trust s at b of p for x ", "plan s at b of p ",
            "firm s at b of p "};
        for (String head : heads) {
            CoverDesk d = Check.desk(BASE + head + "0;");
            is("0 of " + head, d.account(0, 4), 0);
            Check.book(d, BASE + head + "100000000;");
            is("100000000 of " + head, d.account(0, 4), 100000000);
            books(0, BASE + head + "1;", BASE + head + "99999999;");
            books(4, BASE + head + "^100000001;", BASE + head + "^999999999;");
        }
    }

    static void promise4CoinsOfALoanFrom0To100000000() {
        CoverDesk d = Check.desk(BASE + "loan p at b 0; loan q at c 100000000; loan r at b 1; loan r at c 99999999;");
        int[] due = {0, 100000000, 1, 99999999};
        for (int loan = 0; loan < 4; loan++) {
            is("LOAN " + loan, d.loan(loan, 2), due[loan]);
        }
        books(4, BASE + "loan p at b ^100000001;", BASE + "loan p at b ^999999999;");
    }

    static void promise4TermFrom1To60() {
        for (int term : new int[] {1, 2, 59, 60}) {
            CoverDesk d = Check.desk(BASE + "single s at b of p 5 term " + term + ";");
            is("term", d.account(0, 7), term);
        }
        is("without", Check.desk(BASE + "single s at b of p 5;").account(0, 7), 0);
        books(4, BASE + "single s at b of p 5 term ^0;", BASE + "single s at b of p 5 term ^61;",
                BASE + "joint s at b of p q 5 term ^000000000;", BASE + "trust s at b of p for x 5 term ^999999999;");
        books(0, BASE + "trust s at b of p for x 5 term 60;joint j at b of p q 5 term 1;plan t at b of p 5 term 60;");
    }

    static void promise4NamesOf1To8Letters() {
        CoverDesk d = Check.desk("person a; person abcdefg; person abcdefgh; bank z; bank zzzzzzzz;");
        is("1", Check.named(d, "a", 0), 0);
        is("7", Check.named(d, "abcdefg", 0), 1);
        is("8", Check.named(d, "abcdefgh", 0), 2);
        is("8 times z", Check.named(d, "zzzzzzzz", 1), 1);
        books(1, "person ^abcdefghi;", "bank ^abcdefghi;", BASE + "firm ^abcdefghi at b of p 1;",
                BASE + "firm f at ^abcdefghi of p 1;", BASE + "firm f at b of ^abcdefghi 1;",
                BASE + "trust t at b of p for ^abcdefghi 1;", BASE + "trust t at b of p for x ^abcdefghi 1;",
                BASE + "joint j at b of p ^abcdefghi 1;", BASE + "loan ^abcdefghi at b 1;", BASE + "loan p at ^abcdefghi 1;");
        books(0, BASE + "trust abcdefgh at b of p for abcdefgi x 1;");
    }

    static void promise4NamesOf9LettersThatBeginLikeOneTold() {
        String head = "person abcdefgh; bank zyxwvuts; firm ponmlkji at zyxwvuts of abcdefgh 5;";
        books(1, head + "person ^abcdefghi;", head + "firm f at ^zyxwvutsr of abcdefgh 5;",
                head + "firm f at zyxwvuts of ^abcdefghi 5;", head + "firm f at zyxwvuts of abcdefgh ^abcdefghi 5;",
                head + "loan ^abcdefghi at zyxwvuts 5;", head + "trust t at zyxwvuts of abcdefgh for abcdefgh ^abcdefghi 5;",
                "^limitlimi 5;", "^personbank p;");
        CoverDesk d = Check.desk(head);
        is("a PERSON", Check.named(d, "abcdefghi", 0), -1);
        is("a BANK", Check.named(d, "zyxwvutsr", 1), -1);
        is("an ACCOUNT", Check.named(d, "ponmlkjih", 2), -1);
        is("a DEED", Check.day(d, "put 1 ponmlkjih;"), -1);
        is("fault", d.fault(0), 1);
        is("with 8", Check.day(d, "put 1 ponmlkji;"), 1);
    }

    static void promise4NamesAreNoneOfTheWords() {
        for (String word : NO_NAMES) {
            books(1, "person ^" + word + ";", "bank ^" + word + ";", BASE + "plan ^" + word + " at b of p 1;",
                    BASE + "trust t at b of p for ^" + word + " 1;");
            String longer = word + "a";
            String shorter = word.substring(0, word.length() - 1);
            CoverDesk d = Check.desk("person " + longer + "; bank " + shorter + ";");
            is("one letter more: " + longer, Check.named(d, longer, 0), 0);
            is("one letter less: " + shorter, Check.named(d, shorter, 1), 0);
        }
    }

    static void promise4LettersAToZ() {
        books(0, "person a; person z; bank az; bank za;");
        books(1, "person ^`;", "person ^{;", "person ^A;", "person ^Z;", "person ^@;", "person ^[;", "person a^`;",
                "person z^{;", "person a^A;", "person ^\u00e1;", "person ^_;");
    }

    static void promise4DigitsOf1To9() {
        CoverDesk d = Check.desk("limit 9;");
        is("1 digit", d.look(5), 9);
        Check.book(d, "limit 12345678;");
        is("8 digits", d.look(5), 12345678);
        Check.book(d, "limit 012345678;");
        is("9 digits", d.look(5), 12345678);
        books(1, "limit ^0012345678;", "limit ^1234567890;", "limit ^4294967297;", "grace ^0000000000;",
                BASE + "plan s at b of p ^0000000001;", BASE + "plan s at b of p 1 term ^0000000001;",
                BASE + "loan p at b ^0000000001;");
    }

    static void promise4Digits0To9() {
        books(0, "limit 1234567; limit 890;");
        books(1, "limit ^/;", "limit ^:;", "limit 1^/;", "limit 1^:;", "limit ^-1;", "limit ^+1;", "limit 1^.5;");
    }

    static void promise4BlanksAre32And10() {
        CoverDesk d = new CoverDesk();
        is("everywhere", Check.book(d, "\n person\np\n;\n \nbank b ;plan\n\ns  at\nb of p\n5\nterm 6\n; limit\n7 ;\n"), 1);
        is("LIMIT", d.look(5), 7);
        books(1, "^\tperson p;", "person^\tp;", "person p^\r;", "person p;^\r\n", "person^\u000bp;", "person^\fp;",
                "person^\u001fp;", "person^!p;", "^\u0000", "person^\u00a0p;");
    }

    static void promise4BlanksWhereOneLikes() {
        books(0, "limit5;grace6;limit 5 ;limit\n5\n;", BASE + "plan s at b of p5term6;loan p at b7;");
        books(1, "^per son p;", "limit 1 ^0;", "^personp;", "^limi t 5;", "person p ^q;", "^limitt5;");
    }

    static void promise4OwnersOfSinglePlanAndFirmAreOne() {
        for (String kind : new String[] {"single", "plan", "firm"}) {
            String head = BASE + kind + " s at b of ";
            is("one", Check.desk(head + "q 5;").account(0, 5), 1);
            books(1, head + "^5;", head + "^;", head + "^");
            books(5, head + "p ^q 5;");
        }
    }

    static void promise4OwnersOfJointAre2To4() {
        String five = BASE + "person s; person t;";
        String head = five + "joint j at b of ";
        is("2", Check.desk(head + "p q 5;").account(0, 5), 2);
        is("3", Check.desk(head + "p q r 5;").account(0, 5), 3);
        is("4", Check.desk(head + "p q r s 5;").account(0, 5), 4);
        books(1, head + "^5;", head + "^;");
        books(6, head + "p ^5;");
        books(5, head + "p q r s ^t 5;");
    }

    static void promise4OwnersOfTrustAre1Or2() {
        String head = BASE + "trust t at b of ";
        is("1", Check.desk(head + "p for x 5;").account(0, 5), 1);
        is("2", Check.desk(head + "q p for x 5;").account(0, 5), 2);
        books(1, head + "^for x 5;", head + "^5;");
        books(5, head + "p q ^r for x 5;");
    }

    static void promise4OwnersAreUnlike() {
        books(3, BASE + "single s at b of p ^p 5;", BASE + "joint j at b of p ^p 5;", BASE + "joint j at b of p q ^q 5;",
                BASE + "joint j at b of p q r ^p 5;", BASE + "trust t at b of q ^q for x 5;");
        books(0, BASE + "joint j at b of p q 5; joint k at b of p q 5; single s at b of p 5;");
    }

    static void promise4HeirsAre1To6() {
        String head = BASE + "trust t at b of p for ";
        is("1", Check.desk(head + "x 5;").account(0, 6), 1);
        is("2", Check.desk(head + "x y 5;").account(0, 6), 2);
        is("5", Check.desk(head + "d e f g h 5;").account(0, 6), 5);
        is("6", Check.desk(head + "d e f g h i 5;").account(0, 6), 6);
        books(1, head + "^5;", head + "^;", head + "^");
        books(5, head + "d e f g h i ^k 5;");
    }

    static void promise4HeirsAreUnlike() {
        String head = BASE + "trust t at b of p for ";
        books(3, head + "x ^x 5;", head + "x y z ^x 5;", head + "d e f g h ^h 5;");
        books(0, head + "x xx xxx y 5; trust u at b of p for x y 5;");
    }

    static void promise4HeirsToldAheadOrNot() {
        CoverDesk d = new CoverDesk();
        is("of a PERSON, OWNER or not, a BANK, an ACCOUNT, told later, of none",
                Check.book(d, BASE + "firm f at c of q 1; trust t at b of p for p q b f t later 5; person later;"), 2);
        is("HEIRS", d.account(1, 6), 6);
        books(2, BASE + "trust t at b of p for x 5; person ^p;");
        books(0, BASE + "trust t at b of p for x y 5; person x; bank y;");
        books(3, BASE + "trust t at b of p for x 5; single s at b of ^x 5;");
    }

    static void promise4ForOfTrustAloneAndAlways() {
        for (String kind : new String[] {"single", "plan", "firm"}) {
            books(1, BASE + kind + " s at b of p ^for x 5;");
        }
        books(1, BASE + "joint s at b of p q ^for x 5;", BASE + "trust t at b of p ^5;", BASE + "trust t at b of p q ^5;",
                BASE + "trust t at b of p for x ^for y 5;");
    }

    static void promise4AccountsOf0Heirs() {
        CoverDesk d = Check.desk(BASE + "single s at b of p 1; joint j at b of p q 1; plan l at b of p 1; firm f at b of p 1;");
        for (int account = 0; account < 4; account++) {
            is("HEIRS", d.account(account, 6), 0);
        }
    }

    // ---- promise 5 ----

    static void promise5DayOfNothing() {
        CoverDesk d = Check.desk(DAYS);
        Shown before = new Shown(d);
        is("an empty tape", d.day(), 0);
        is("blanks", Check.day(d, " \n "), 0);
        is("no fault", d.fault(0), 0);
        is("nothing to undo", d.look(7), 0);
        is("told", d.look(9), 0);
        CHECK.same("a DAY of nothing", d, before);
    }

    static void promise5DayOnANewObject() {
        CoverDesk d = new CoverDesk();
        is("MONTHS", Check.day(d, "months 5; months 6;"), 2);
        is("no LOAN", Check.day(d, "pay 0 1;"), 0);
        is("no ACCOUNT", Check.day(d, "put 1 s;"), -1);
        is("fault", d.fault(0), 3);
    }

    static void promise5DayUpToTheFirstRefused() {
        CoverDesk d = Check.desk(DAYS);
        is("the second of three", Check.day(d, "put 1 s; put 0 s; put 2 s;"), 1);
        is("the first alone", d.account(0, 4), 51);
        is("all are told", d.look(9), 3);
        is("the last of three", Check.day(d, "put 1 s; put 1 s; take 100 s;"), 2);
        is("two", d.account(0, 4), 53);
        is("none of these is refused", Check.day(d, "put 1 s; put 1 s; put 1 s;"), 3);
        is("three to undo", d.look(7), 3);
    }

    static void promise5DayWhoseFirstIsRefused() {
        CoverDesk d = Check.desk(DAYS);
        d.put(0, 1);
        Shown before = new Shown(d);
        is("none is done", Check.day(d, "put 0 s; put 1 s; months 1;"), 0);
        CHECK.same("a DAY that did none", d, before);
        is("but told", d.look(9), 3);
        yes("undo", d.undo());
        is("of the call", d.account(0, 4), 50);
        no("no more", d.undo());
    }

    static void promise5DayWithAFaultDoesNothing() {
        CoverDesk d = Check.desk(DAYS);
        Check.day(d, "put 1 s; put 1 s;");
        Shown before = new Shown(d);
        is("at the end", Check.day(d, "put 1 s; months 1; fail c 5"), -1);
        CHECK.same("a DAY with a fault", d, before);
        is("empty with a fault, too", d.look(8), 0);
        is("told by the latest without", d.look(9), 2);
    }

    static void promise5DayOf116Deeds() {
        CoverDesk d = Check.desk(BASE + "firm z at b of p 0;");
        Check.tell(d, "put1z;".repeat(116) + "\n \n ");
        is("700 bytes", d.look(8), 700);
        is("all of them", d.day(), 116);
        is("COINS", d.account(0, 4), 116);
        is("told", d.look(9), 116);
        yes("one to undo", d.undo());
        is("none", d.account(0, 4), 0);
        no("no more to undo", d.undo());
    }

    static void promise5DayBehindADayOfMoreDeeds() {
        CoverDesk d = Check.desk(DAYS);
        is("three", Check.day(d, "put 1 s; put 10 s; put 100 s;"), 3);
        is("two", Check.day(d, "take 1 s; take 10 s;"), 2);
        is("COINS", d.account(0, 4), 150);
        is("told", d.look(9), 2);
        is("none", d.day(), 0);
        is("COINS still", d.account(0, 4), 150);
    }

    static void promise5DayReadAheadOfWhatItDoes() {
        CoverDesk d = Check.desk(DAYS);
        is("a fault behind a DEED that is refused", Check.day(d, "put 0 s; put 1 x;"), -1);
        is("fault", d.fault(0), 3);
        is("place", d.fault(1), 15);
        is("a fault behind a DEED that can be", Check.day(d, "put 1 s; put 100000001 s;"), -1);
        is("fault", d.fault(0), 4);
        is("COINS", d.account(0, 4), 50);
    }

    static void promise5DayMonths1To99() {
        CoverDesk d = Check.desk(DAYS);
        is("0", Check.day(d, "months 0;"), 0);
        is("1", Check.day(d, "months 1;"), 1);
        is("99", Check.day(d, "months 99;"), 1);
        is("MONTH", d.look(4), 100);
        is("100", Check.day(d, "months 100;"), 0);
        is("100000000", Check.day(d, "months 100000000;"), 0);
        is("MONTH still", d.look(4), 100);
    }

    static void promise5DayMonthsUpTo999() {
        CoverDesk d = Check.desk(DAYS);
        is("ten times 99, and 9", Check.day(d, "months 99;".repeat(10) + "months 9;"), 11);
        is("MONTH", d.look(4), 999);
        is("1000", Check.day(d, "months 1;"), 0);
        d.undo();
        is("9 of 10 MONTHS", Check.day(d, "months 99;".repeat(10) + "months 10;"), 10);
        is("MONTH", d.look(4), 990);
    }

    static void promise5DayPutUpTo100000000() {
        CoverDesk d = Check.desk(DAYS);
        is("0", Check.day(d, "put 0 s;"), 0);
        is("one above", Check.day(d, "put 99999951 s;"), 0);
        is("up to it", Check.day(d, "put 99999950 s;"), 1);
        is("COINS", d.account(0, 4), 100000000);
        is("one more", Check.day(d, "put 1 s;"), 0);
    }

    static void promise5DayTakeUpToWhatThereIs() {
        CoverDesk d = Check.desk(DAYS);
        is("0", Check.day(d, "take 0 s;"), 0);
        is("one above", Check.day(d, "take 51 s;"), 0);
        is("all but one", Check.day(d, "take 49 s;"), 1);
        is("one above again", Check.day(d, "take 2 s;"), 0);
        is("the last", Check.day(d, "take 1 s;"), 1);
        is("1 of 0", Check.day(d, "take 1 s;"), 0);
    }

    static void promise5DayPayUpToWhatItIs() {
        CoverDesk d = Check.desk(DAYS);
        is("0", Check.day(d, "pay 0 0;"), 0);
        is("one above", Check.day(d, "pay 0 6;"), 0);
        is("no such LOAN", Check.day(d, "pay 1 1;"), 0);
        is("no such LOAN far above", Check.day(d, "pay 100000000 1;"), 0);
        is("all", Check.day(d, "pay 0 5;"), 1);
        is("1 of 0", Check.day(d, "pay 0 1;"), 0);
    }

    static void promise5DayFailAndMerge() {
        CoverDesk d = Check.desk(DAYS + "bank e;");
        is("into itself", Check.day(d, "merge b into b;"), 0);
        is("an ESTATE of 100000000", Check.day(d, "fail b 100000000;"), 1);
        is("again", Check.day(d, "fail b 0;"), 0);
        is("MERGED then", Check.day(d, "merge b into c;"), 0);
        is("INTO it", Check.day(d, "merge c into b;"), 0);
        is("put there", Check.day(d, "put 1 s;"), 0);
        is("an ESTATE of 0", Check.day(d, "merge c into e; fail e 0;"), 2);
        is("a MERGED one", Check.day(d, "fail c 0;"), 0);
    }

    static void promise5DayFailWithAnEstate() {
        for (int estate : new int[] {0, 1, 50, 51, 100000000}) {
            CoverDesk d = Check.desk("limit 30;" + DAYS);
            d.pay(0, 5);
            is("fail", Check.day(d, "fail b " + estate + ";"), 1);
            // CLAIMS 20 and 30: of 1, rests 20 and 30
            is("to PEOPLE of " + estate, d.total(3), estate < 50 ? 0 : 20);
            is("to the last of " + estate, d.total(4), estate < 50 ? estate : 30);
        }
    }

    // ---- promise 6 ----

    static void promise6FaultOfAnotherWhat() {
        CoverDesk d = new CoverDesk();
        Check.book(d, "limit 0;");
        is("0", d.fault(0), 4);
        is("1", d.fault(1), 6);
        is("2", d.fault(2), -1);
        for (int what : WRONG_WHATS) {
            is("what " + what, d.fault(what), -1);
        }
    }

    static void promise6FaultOfTheLatest() {
        CoverDesk d = new CoverDesk();
        Check.book(d, "limit 0;");
        Check.day(d, "  x");
        is("of the DAY", d.fault(0), 1);
        is("its place", d.fault(1), 2);
        Check.book(d, "person p;");
        is("without: 0", d.fault(0), 0);
        is("without: NONE", d.fault(1), -1);
        Check.book(d, "person p");
        is("of the BOOK", d.fault(1), 8);
        d.day();
        is("of the DAY without", d.fault(0), 0);
        is("NONE", d.fault(1), -1);
    }

    static void promise6FaultStaysUntilThen() {
        CoverDesk d = Check.desk(DAYS);
        Check.book(d, "limit 0;");
        Check.named(d, "!", 0);
        d.put(0, 0);
        d.put(0, 1);
        d.undo();
        d.end(5);
        is("fault", d.fault(0), 4);
        is("place", d.fault(1), 6);
    }

    static void promise6PlaceFrom0ToTheLength() {
        books(1, "^x", " ^x", "person^", "person \n ^", "person p^", "person p ^", "person p;^p", "limit^");
        days(1, "^x", "months^", "months 5^", "months 5 \n^", "months 5;^5", "put 1 s; ^s");
    }

    static void promise6PlaceOfNoFault() {
        books(0, "", " ", "person p;", "person p; ");
        days(0, "", "\n", "months 1;");
    }

    static void promise6TheFirstByItsPlace() {
        books(4, "limit ^0; limit 0;", "limit ^0; x", "grace ^61; person abcdefghi;");
        books(1, "limit ^x 0; limit 0;", "limit 5 ^5; limit 0;");
        books(2, BASE + "firm ^p at x of y 100000001");
        books(3, BASE + "firm f at ^x of y 100000001");
        books(6, BASE + "joint j at b of p ^5 term 61");
        days(4, "months ^100000001; put 1 x; z");
        days(3, "put 1 ^x; months 100000001");
    }

    static void promise6LeastNumberOfOnePlace2Of5() {
        books(2, PEOPLE_9 + "person j; person ^a;", BANKS_5 + "bank ff; bank ^aa;", firms(24) + "firm ^p at b of p1;");
    }

    static void promise6LeastNumberOfOnePlace3Of5() {
        books(3, BASE + "single s at b of p ^x 5;", BASE + "single s at b of p ^p 5;", BASE + "single s at b of p ^b 5;",
                BASE + "trust t at b of p q ^x for y 5;", BASE + "trust t at b of p q ^p for y 5;",
                BASE + "person s; joint j at b of p q r s ^x 5;", BASE + "person s; joint j at b of p q r s ^r 5;",
                BASE + "trust t at b of p for d e f g h i ^d 5;");
    }

    static void promise6LeastNumberOfOnePlace4Of6() {
        books(4, BASE + "joint j at b of p ^100000001;", BASE + "joint j at b of p ^999999999;");
        books(6, BASE + "joint j at b of p ^100000000;", BASE + "joint j at b of p ^0;");
    }

    static void promise6LeastNumberOfOnePlace1OfAll() {
        books(1, PEOPLE_9 + "person j; person ^abcdefghi;", firms(24) + "firm ^at at b of p1;",
                BASE + "joint j at b of p ^1000000000;", BASE + "joint j at b of p ^for x 5;",
                BASE + "single s at b of p ^of 5;", BASE + "trust t at b of p for d e f g h i ^at 5;");
    }

    static void promise6Fault1WhatCantStandInABook() {
        books(1, "^;", "^5;", "^put 1 s;", "^take 1 s;", "^merge b into c;", "^months 5;", "^pay 0 1;", "^fail b 1;",
                "^at;", "^of;", "^for;", "^term 5;", "^into;", "^name;", "person p ^person q;", "limit ^limit;",
                BASE + "single s ^b of p 5;", BASE + "single s at b ^p 5;", BASE + "single s at ^of p 5;",
                BASE + "single s at b of p 5 ^6;", BASE + "single s at b of p 5 ^q;", BASE + "single s at b of p 5 term ^;",
                BASE + "single s at b of p 5 term 6 ^term 6;", BASE + "single s at b of p ^term 6;",
                BASE + "loan p ^c 5;", BASE + "loan p at b ^c;", BASE + "loan p at b 5 ^term 5;", BASE + "loan ^5;");
    }

    static void promise6Fault1WhatCantStandInADay() {
        days(1, "^;", "^5;", "^person x;", "^bank x;", "^limit 5;", "^grace 5;", "^single x at b of p 5;", "^loan p at b 5;",
                "^into;", "^s;", "put ^s 5;", "put 1 ^1;", "put 1 s ^s;", "put ^;", "take ^s;", "take 1 ^;", "merge ^1;",
                "merge b ^c;", "merge b into ^1;", "merge b into c ^c;", "months ^s;", "months 1 ^1;", "pay ^s 1;",
                "pay 0 ^s;", "pay 0 1 ^1;", "fail ^1;", "fail b ^;", "fail b 1 ^1;", "put 1 ^abcdefghi;",
                "put ^0000000001 s;", "months ^0000000001;", "pay ^0000000000 1;", "pay 0 ^0000000001;",
                "fail b ^0000000001;", "^abcdefghi;", "put 1 ^put;", "merge ^merge into b;", "months 1^,");
    }

    static void promise6Fault2OfEachSort() {
        String all = "person p; bank b; firm f at b of p 1; ";
        for (String name : new String[] {"p", "b", "f"}) {
            books(2, all + "person ^" + name + ";", all + "bank ^" + name + ";", all + "plan ^" + name + " at b of p 1;");
        }
        books(0, all + "person pp; bank bb; plan ff at b of p 1;", "person p; bank b; firm pb at b of p 1; person bp;");
    }

    static void promise6Fault2OfABookBefore() {
        CoverDesk d = Check.desk("person p; bank b; firm f at b of p 1;");
        is("the names are free again", Check.book(d, "bank p; person b; firm f at p of b 1;"), 1);
        is("the BANK", Check.named(d, "p", 1), 0);
        is("no PERSON", Check.named(d, "p", 0), -1);
    }

    static void promise6Fault3NoPersonAhead() {
        books(3, BASE + "single s at b of ^x 5;", BASE + "single s at b of ^b 5;", BASE + "single s at b of ^s 5;",
                BASE + "firm f at b of p 1; single s at b of ^f 5;", "bank b; single s at b of ^x 5; person x;",
                BASE + "joint j at b of p ^x 5;", BASE + "trust t at b of ^x for x 5;", BASE + "loan ^x at b 5;",
                BASE + "loan ^b at b 5;", "bank b; loan ^x at b 5; person x;");
    }

    static void promise6Fault3NoBankAhead() {
        books(3, BASE + "single s at ^x of p 5;", BASE + "single s at ^p of p 5;", BASE + "single s at ^s of p 5;",
                "person p; single s at ^b of p 5; bank b;", BASE + "firm f at b of p 1; firm g at ^f of p 1;",
                BASE + "loan p at ^x 5;", BASE + "loan p at ^p 5;", "person p; loan p at ^b 5; bank b;");
    }

    static void promise6Fault3OfABookBefore() {
        CoverDesk d = Check.desk(DAYS);
        is("no PERSON any more", Check.book(d, "bank z; loan p at z 5;"), -1);
        is("fault", d.fault(0), 3);
        is("place", d.fault(1), 13);
        is("no BANK any more", Check.book(d, "person z; loan z at b 5;"), -1);
        is("fault", d.fault(0), 3);
        is("place", d.fault(1), 20);
    }

    static void promise6Fault3OfADay() {
        days(3, "put 1 ^x;", "put 1 ^p;", "put 1 ^b;", "take 1 ^x;", "take 1 ^c;", "merge ^x into b;", "merge ^s into b;",
                "merge b into ^x;", "merge b into ^p;", "fail ^x 1;", "fail ^s 1;", "put 0 ^x;", "put 1 s; take 1 ^t;");
        days(0, "put 1 s; take 1 j; merge b into c; fail c 1;");
    }

    static void promise6Fault4OfADayAbove100000000() {
        String[] all = {"put N s;", "take N s;", "months N;", "pay N 1;", "pay 0 N;", "fail b N;"};
        for (String deed : all) {
            days(0, deed.replace("N", "0"), deed.replace("N", "99999999"), deed.replace("N", "100000000"),
                    deed.replace("N", "000000001"));
            days(4, deed.replace("N", "^100000001"), deed.replace("N", "^999999999"));
            days(1, deed.replace("N", "^1000000000"));
        }
    }

    // ---- promise 7 ----

    static void promise7NamedOfAnotherWhat() {
        CoverDesk d = Check.desk("person p; bank b; firm f at b of p 1;");
        is("PERSON", Check.named(d, "p", 0), 0);
        is("BANK", Check.named(d, "b", 1), 0);
        is("ACCOUNT", Check.named(d, "f", 2), 0);
        for (String name : new String[] {"p", "b", "f"}) {
            is("what 3", Check.named(d, name, 3), -1);
            for (int what : WRONG_WHATS) {
                is("what " + what, Check.named(d, name, what), -1);
                is("the tape is empty", d.look(8), 0);
            }
        }
    }

    static void promise7NamedOfAnotherSort() {
        CoverDesk d = Check.desk(BASE + "trust t at c of q for heir 1;");
        is("a BANK is no PERSON", Check.named(d, "b", 0), -1);
        is("an ACCOUNT is no PERSON", Check.named(d, "t", 0), -1);
        is("a PERSON is no BANK", Check.named(d, "p", 1), -1);
        is("an ACCOUNT is no BANK", Check.named(d, "t", 1), -1);
        is("a PERSON is no ACCOUNT", Check.named(d, "p", 2), -1);
        is("a BANK is no ACCOUNT", Check.named(d, "b", 2), -1);
        for (int what = 0; what < 3; what++) {
            is("an HEIR is none", Check.named(d, "heir", what), -1);
        }
    }

    static void promise7NamedOfNothing() {
        CoverDesk d = Check.desk(DAYS);
        for (int what = 0; what < 3; what++) {
            is("an empty tape", d.named(what), -1);
            is("blanks alone", Check.named(d, " \n ", what), -1);
        }
    }

    static void promise7NamedAlone() {
        CoverDesk d = Check.desk(DAYS + "person pq;");
        String[] notAlone = {"p q", "p p", "p;", ";p", "p1", "1p", "p 1", "p!", "!p", "p\t", "\tp", "pq\u0000", "per son", "p\nq"};
        for (String text : notAlone) {
            is(text, Check.named(d, text, 0), -1);
            is("the tape is empty", d.look(8), 0);
        }
    }

    static void promise7NamedBlanksAside() {
        CoverDesk d = Check.desk(DAYS);
        for (String text : new String[] {"q", " q", "q ", "\nq", "q\n", " \n q \n ", " ".repeat(699) + "q"}) {
            is("q", Check.named(d, text, 0), 1);
        }
        is("700 bytes", Check.named(d, "q" + "\n".repeat(699), 0), 1);
    }

    static void promise7NamedOf1To8Letters() {
        CoverDesk d = Check.desk("person a; person abcdefgh;");
        is("1", Check.named(d, "a", 0), 0);
        is("8", Check.named(d, "abcdefgh", 0), 1);
        is("9", Check.named(d, "abcdefghi", 0), -1);
        is("9 in front", Check.named(d, "xabcdefgh", 0), -1);
        is("7", Check.named(d, "abcdefg", 0), -1);
        is("700", Check.named(d, "a".repeat(700), 0), -1);
    }

    static void promise7NamedOfTheWords() {
        CoverDesk d = Check.desk(DAYS);
        for (String word : NO_NAMES) {
            is(word, Check.named(d, word, 0), -1);
        }
    }

    static void promise7NamedChangesNothingElse() {
        CoverDesk d = Check.desk(DAYS);
        Check.day(d, "put 1 s; x");
        Shown before = new Shown(d);
        Check.named(d, "s", 2);
        Check.named(d, "!", 5);
        CHECK.same("named", d, before);
        is("the fault stays", d.fault(1), 9);
    }

    static void promise7NamedTheLastOfAll() {
        CoverDesk d = Check.desk(PEOPLE_9 + "person j;" + BANKS_5 + "bank ff;");
        is("PERSON 9", Check.named(d, "j", 0), 9);
        is("BANK 5", Check.named(d, "ff", 1), 5);
        Check.book(d, firms(24));
        is("ACCOUNT 23", Check.named(d, "xx", 2), 23);
        is("ACCOUNT 0", Check.named(d, "ax", 2), 0);
        is("no more", Check.named(d, "yx", 2), -1);
    }

    // ---- promise 33 ----

    static void promise33LookOfAnotherWhat() {
        CoverDesk d = Check.desk(DAYS);
        is("10", d.look(10), -1);
        for (int what : WRONG_WHATS) {
            is("what " + what, d.look(what), -1);
        }
    }

    static void promise33LookOfEach() {
        CoverDesk d = Check.desk("limit 7; grace 9;" + DAYS + "loan q at c 8;");
        Check.day(d, "months 4; put 1 s; put 0 s;");
        d.put(0, 1);
        d.put(0, 1);
        Check.tell(d, "abcdefghijk");
        int[] due = {3, 2, 2, 2, 4, 7, 9, 3, 11, 3};
        for (int what = 0; what < due.length; what++) {
            is("look(" + what + ")", d.look(what), due[what]);
        }
    }

    static void promise33LookAtWhatTheLatestDayTold() {
        CoverDesk d = Check.desk(DAYS);
        Check.day(d, "put 1 s; put 1 s; put 1 s;");
        is("3", d.look(9), 3);
        Check.day(d, "put 1 s");
        is("a fault", d.look(9), 3);
        Check.day(d, "put 0 s; put 1 s;");
        is("none done, but told", d.look(9), 2);
        d.put(0, 1);
        is("a call is no DAY", d.look(9), 2);
        Check.day(d, "put 1 s;");
        d.undo();
        is("undone, but told", d.look(9), 1);
        d.day();
        is("none", d.look(9), 0);
    }

    static void promise33LookBehindABook() {
        CoverDesk d = Check.desk("limit 7; grace 9;" + DAYS);
        Check.day(d, "months 4; put 1 s;");
        is("a BOOK with a fault", Check.book(d, "limit 5; grace 5; person p"), -1);
        int[] before = {3, 2, 2, 1, 4, 7, 9, 1, 0, 2};
        for (int what = 0; what < before.length; what++) {
            is("with a fault: look(" + what + ")", d.look(what), before[what]);
        }
        is("a BOOK", Check.book(d, "grace 5; person p;"), 0);
        // a BOOK is no DAY: what the latest DAY told stays
        int[] behind = {1, 0, 0, 0, 0, 250000, 5, 0, 0, 2};
        for (int what = 0; what < behind.length; what++) {
            is("behind it: look(" + what + ")", d.look(what), behind[what]);
        }
    }
}
