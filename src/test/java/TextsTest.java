/** Promises 1 to 7 and 33: a new object, the tape, books, days, their faults, names. Answers worked out by hand. */
public final class TextsTest {
    private static final Check CHECK = new Check();
    private static final String[] NO_NAMES = {"person", "bank", "limit", "grace", "at", "of", "for", "term", "loan",
        "single", "joint", "trust", "plan", "firm", "put", "take", "merge", "into", "months", "pay", "fail"};
    // a person, a second, a third; two banks
    private static final String BASE = "person p; person q; person r; bank b; bank c; ";

    private TextsTest() {
    }

    public static void main(String[] args) {
        promise1NewObject();
        promise2Feed();
        promise3End();
        promise4Book();
        promise4BookReplacesAll();
        promise5Day();
        promise6FaultsOfBooks();
        promise6FaultsOfCounts();
        promise6FaultsOfDays();
        promise6Fault();
        promise7Named();
        promise33Look();
        CHECK.close("TextsTest");
    }

    private static void is(String call, long got, long due) {
        CHECK.is(call, got, due);
    }

    private static void promise1NewObject() {
        CoverDesk d = new CoverDesk();
        long[] due = {0, 0, 0, 0, 0, 250000, 6, 0, 0, 0};
        for (int i = 0; i < due.length; i++) {
            is("new: look(" + i + ")", d.look(i), due[i]);
        }
        for (int what = 0; what < 10; what++) {
            is("new: account", d.account(0, what), -2);
            is("new: bank", d.bank(0, what), -2);
            is("new: owner", d.owner(0, 0, what), -1);
            is("new: held", d.held(0, what), -1);
            is("new: of", d.of(0, 0, what), -1);
            is("new: group", d.group(0, 0, 0, 0, what), -1);
            is("new: came", d.came(0, 0, what), -1);
            is("new: total", d.total(what), -1);
            is("new: loan", d.loan(0, what), -1);
            is("new: moves", d.moves(0, what), -1);
            is("new: move", d.move(0, -1, what), -1);
            is("new: worst", d.worst(what), -1);
        }
        is("new: change(NONE)", d.change(CoverDesk.NONE), 0);
        is("new: change(0)", d.change(0), -1);
        is("new: rank(0)", d.rank(0), -1);
        is("new: bestKind(0)", d.bestKind(0), -1);
        is("new: asKind(0, 3)", d.asKind(0, 3), Long.MIN_VALUE);
        is("new: heirMore(0)", d.heirMore(0), -1);
        is("new: warns(0)", d.warns(0), -1);
        CHECK.no("new: undo", d.undo());
        CHECK.no("new: put", d.put(0, 1));
        CHECK.no("new: take", d.take(0, 1));
        CHECK.no("new: merge", d.merge(0, 1));
        CHECK.no("new: pay", d.pay(0, 1));
        CHECK.no("new: fail", d.fail(0, 0));
        CHECK.yes("new: months", d.months(1));
        is("new: an empty book", new CoverDesk().book(), 0);
        is("new: an empty day", new CoverDesk().day(), 0);
    }

    private static void promise2Feed() {
        CoverDesk d = new CoverDesk();
        // "limi" "t 77" "; gr" "ace " "9;  "
        is("feed", d.feed(0x6c696d69, 0x74203737, 0x3b206772, 0x61636520, 0x393b2020), 20);
        is("book of fed bytes", d.book(), 0);
        is("highest byte first", d.look(5), 77);
        is("the last number, too", d.look(6), 9);
        for (int i = 1; i <= 35; i++) {
            is("feed " + i, d.feed(-1, 0, 1, Integer.MIN_VALUE, Integer.MAX_VALUE), 20 * i);
        }
        is("feed above 700", d.feed(0, 0, 0, 0, 0), -1);
        is("none come", d.look(8), 700);
        CHECK.yes("end(681)", d.end(681));
        is("feed to 701", d.feed(0, 0, 0, 0, 0), -1);
        is("none come of 20", d.look(8), 681);
        CHECK.yes("end(680)", d.end(680));
        is("feed to 700", d.feed(0, 0, 0, 0, 0), 700);
        d.end(0);
        d.feed(0x6c696dff, 0, 0, 0, 0);
        d.book();
        is("a byte of 255 can't stand", d.fault(1), 0);
        d.feed(0x20202020, 0x0a0a0a0a, 0x200a20ff, 0, 0);
        d.book();
        is("its place", d.fault(1), 11);
    }

    private static void promise3End() {
        CoverDesk d = new CoverDesk();
        CHECK.yes("end(0) of none", d.end(0));
        CHECK.no("end(1) of none", d.end(1));
        Check.tell(d, "limit 1234567;");
        CHECK.no("end(-1)", d.end(-1));
        CHECK.no("end(MIN)", d.end(Integer.MIN_VALUE));
        CHECK.no("end(MAX)", d.end(Integer.MAX_VALUE));
        CHECK.no("end(15)", d.end(15));
        is("all stands", d.look(8), 14);
        CHECK.yes("end(14)", d.end(14));
        CHECK.yes("end(9)", d.end(9));
        CHECK.no("end(10) of 9", d.end(10));
        Check.tell(d, ";");
        d.book();
        is("the first 9 and a sign", d.look(5), 123);
        Check.tell(d, "limit 1234567;");
        d.end(9);
        d.book();
        is("what was cut off is not read", d.fault(1), 9);
        Check.book(d, "person ab;");
        Check.tell(d, "abc");
        d.end(2);
        is("nor letters", d.named(0), 0);
    }

    private static void promise4Book() {
        CoverDesk d = new CoverDesk();
        is("blanks alone", Check.book(d, " \n \n"), 0);
        is("five kinds", Check.book(d, BASE + "single s at b of p 1; joint j at c of q r p 2; trust t at b of r q for x p 3"
                + " term 60; plan pl at b of p 0; firm f at c of q 100000000 term 1; loan r at c 0; loan q at b 100000000;"),
                5);
        int[] kinds = {0, 1, 2, 3, 4};
        int[] homes = {0, 1, 0, 0, 1};
        int[] coins = {1, 2, 3, 0, 100000000};
        int[] owners = {1, 3, 2, 1, 1};
        int[] heirs = {0, 0, 2, 0, 0};
        int[] terms = {0, 0, 60, 0, 1};
        for (int a = 0; a < 5; a++) {
            is("kind", d.account(a, 0), kinds[a]);
            is("home", d.account(a, 1), homes[a]);
            is("coins", d.account(a, 4), coins[a]);
            is("owners", d.account(a, 5), owners[a]);
            is("heirs", d.account(a, 6), heirs[a]);
            is("term", d.account(a, 7), terms[a]);
        }
        is("owners as told 0", d.owner(1, 0, 0), 1);
        is("owners as told 1", d.owner(1, 1, 0), 2);
        is("owners as told 2", d.owner(1, 2, 0), 0);
        is("loan 0 of r", d.loan(0, 0), 2);
        is("loan 1 of", d.loan(1, 2), 100000000);
        is("the tape is empty", d.look(8), 0);
        is("blanks where one likes", Check.book(d, "\n limit\n \n7;limit8 ;grace\n9;grace 10\n;personp;"), -1);
        is("letters that stand together are one word", d.fault(1), 38);
        is("none between a word and an N", Check.book(d, "limit\n \n7;limit8 ;grace0009;person p;bank b;firm"
                + "\nf at b of p5term6;"), 1);
        is("limit told last", d.look(5), 8);
        is("grace told last", d.look(6), 9);
        is("coins", d.account(0, 4), 5);
        is("term", d.account(0, 7), 6);
        is("a name may begin like a word", Check.book(d, "person pe; bank forx; firm atx at forx of pe 1;"), 1);
        is("eight letters", Check.book(d, "person abcdefgh; bank abcdefgi; firm abcdefg at abcdefgi of abcdefgh 1;"), 1);
    }

    private static void promise4BookReplacesAll() {
        CoverDesk d = Check.desk("limit 5; grace 1;" + BASE + "single s at b of p 9; loan p at b 3;");
        d.merge(0, 1);
        d.months(7);
        d.fail(1, 2);
        is("a fault", Check.book(d, "limit 9; person p; x"), -1);
        is("all else stays: limit", d.look(5), 5);
        is("all else stays: people", d.look(0), 3);
        is("all else stays: month", d.look(4), 7);
        is("all else stays: undo", d.look(7), 3);
        is("all else stays: failing", d.total(0), 1);
        is("empty with a fault, too", d.look(8), 0);
        is("a new book", Check.book(d, "person z; bank y; single s at y of z 4;"), 1);
        long[] due = {1, 1, 1, 0, 0, 250000, 6, 0, 0, 0};
        for (int i = 0; i < due.length; i++) {
            is("in place of all: look(" + i + ")", d.look(i), due[i]);
        }
        is("no merger", d.bank(0, 0), -1);
        is("no failing", d.bank(0, 2), 0);
        is("none failed yet", d.total(0), -1);
        is("none came", d.came(0, 0, 0), -1);
        CHECK.no("nothing to undo", d.undo());
        d.fail(0, 3);
        Check.book(d, BASE + "trust t at b of p q for x y 9 term 5; joint j at c of p q r 7; plan l at b of p 1; loan q at c 5;");
        is("the first has not failed", d.bank(0, 2), 0);
        is("the loan", d.loan(0, 2), 5);
        Check.book(d, BASE + "single s at b of q 9;");
        is("a smaller one: accounts", d.look(2), 1);
        is("no heirs any more", d.account(0, 6), 0);
        is("no term any more", d.account(0, 7), 0);
        is("one owner", d.account(0, 5), 1);
        is("which", d.owner(0, 0, 0), 1);
        is("no loans", d.loan(0, 0), -1);
        is("no more at b", d.bank(0, 3), 1);
        is("none at c", d.bank(1, 3), 0);
        is("no more of p", d.of(0, 0, 0), 0);
        is("limit at first", d.look(5), 250000);
    }

    private static void promise5Day() {
        CoverDesk d = Check.desk("limit 100; grace 3;" + BASE + "single s at b of p 10; single t at c of q 20; loan p at b 9;");
        is("all six deeds", Check.day(d, "put 5 s; take 2 t;\nmerge b into c;months 4;pay 0 4; fail c 7;"), 6);
        is("put and failed", d.account(0, 4), 0);
        is("month", d.look(4), 4);
        is("told", d.look(9), 6);
        is("loan: 9 less 4, set off", d.loan(0, 2), 0);
        is("set off", d.total(1), 5);
        is("paid: 15 - 5 and 18", d.total(2), 28);
        is("the estate", d.total(4), 7);
        is("one to undo", d.look(7), 1);
        CHECK.yes("undo the day", d.undo());
        is("as before: coins", d.account(0, 4), 10);
        is("as before: month", d.look(4), 0);
        is("as before: no failing", d.total(0), -1);
        is("up to the first refused", Check.day(d, "put 1 s; put 100000000 s; put 1 t;"), 1);
        is("the first is done", d.account(0, 4), 11);
        is("the third is not", d.account(1, 4), 20);
        is("but all were told", d.look(9), 3);
        is("none done", Check.day(d, "months 0; put 1 s;"), 0);
        is("nothing more to undo", d.look(7), 1);
        is("of none", Check.day(d, " "), 0);
        is("none told", d.look(9), 0);
        Check.day(d, "months 1; put 1 s");
        is("read ahead: nothing done with a fault", d.look(4), 0);
        is("a fault leaves what was told", d.look(9), 0);
        is("empty with a fault, too", d.look(8), 0);
        is("refused: months 100", Check.day(d, "months 100;"), 0);
        is("refused: no such loan", Check.day(d, "pay 1 1;"), 0);
        is("refused: 0 coins", Check.day(d, "put 0 s;"), 0);
        is("refused: into itself", Check.day(d, "merge b into b;"), 0);
        is("refused: 10 of a loan of 9", Check.day(d, "pay 0 10;"), 0);
        is("refused: 5 of a loan of 4 then", Check.day(d, "pay 0 5; pay 0 5; put 1 s;"), 1);
        is("loan: 4", d.loan(0, 2), 4);
        is("refused: 12 of 11", Check.day(d, "take 12 s;"), 0);
        is("refused: 8 of 7 then", Check.day(d, "take 4 s; take 8 s; put 1 s;"), 1);
        is("coins: 7", d.account(0, 4), 7);
        is("an estate of 0", Check.day(d, "fail b 0;"), 1);
        is("refused: the failing left none", Check.day(d, "take 1 s;"), 0);
        CHECK.yes("undo the failing", d.undo());
        Check.book(d, BASE + "single s at b of p 10; single t at c of q 20; loan p at b 101;");
        is("100 deeds", Check.day(d, "pay0 1;".repeat(100)), 100);
        is("loan", d.loan(0, 2), 1);
        is("116 deeds", Check.day(d, "put1t;".repeat(116)), 116);
        is("116 coins", d.account(1, 4), 136);
        is("less deeds than the day before", Check.day(d, "put 1 t;"), 1);
        is("one coin", d.account(1, 4), 137);
    }

    /** The sign ^ stands where the fault is due. */
    private static void fault(boolean day, String text, int due) {
        CoverDesk d = Check.desk(day ? BASE + "single s at b of p 1; loan p at b 5;" : "");
        int place = text.indexOf('^');
        String tape = place < 0 ? text : text.substring(0, place) + text.substring(place + 1);
        Check.tell(d, tape);
        int got = day ? d.day() : d.book();
        is("NONE with a fault: " + text, got < 0 ? 1 : 0, due == 0 ? 0 : 1);
        is("fault(0) of " + text, d.fault(0), due);
        is("fault(1) of " + text, d.fault(1), place);
    }

    private static void book(String text, int due) {
        fault(false, text, due);
    }

    private static void promise6FaultsOfBooks() {
        String[] cannotStand = {"^x;", "^;", "^5;", "^at;", "^put 5 x;", "person ^;", "person ^5;", "person^", "person  \n^",
            "person a^", "person a \n^", "person a ^b;", "person a ^5;", "person ^abcdefghi;", "^abcdefghi a;", "^Person a;",
            "person ^A;", "person a^A;", "limit ^x;", "limit ^;", "limit ^-5;", "limit 5^:", "limit^\t5;", "limit^\r5;",
            "limit 5 ^6;", "limit ^1000000000;", "limit ^0000000001;", "limit 5;^;", "grace ^of;", "grace 5^",
            BASE + "single ^at at b of p 1;", BASE + "single s ^of p 1;", BASE + "single s at ^5;", BASE + "single s at b ^p 1;",
            BASE + "single s at b of ^1;", BASE + "single s at b of p ^;", BASE + "single s at b of p ^for x 1;",
            BASE + "single s at b of p 1 ^x;", BASE + "single s at b of p 1 term ^;", BASE + "single s at b of p 1 term 5 ^6;",
            BASE + "single s at b of p 1 ^2;", BASE + "single s at b of p ^term 5;", BASE + "joint j at b of p q ^for r 1;",
            BASE + "joint j at b of ^at q 1;", BASE + "joint j at b of p ^for r 1;", BASE + "joint j at b of p ^;",
            BASE + "plan j at b of p ^for q 1;", BASE + "firm j at b of p ^for q 1;", BASE + "trust t at b of p ^1;",
            BASE + "trust t at b of ^for q 1;", BASE + "trust t at b of p for ^1;", BASE + "trust t at b of p for ^term;",
            BASE + "trust t at b of p for x ^;", BASE + "trust t at b of p for ^abcdefghi 1;", BASE + "loan ^at b 1;",
            BASE + "loan p ^b 1;", BASE + "loan p at b ^;", BASE + "loan p at b 1 ^term 1;", BASE + "loan p at ^1;",
            BASE + "joint j at b of p ^1000000000;", BASE + "single s at b of p ^1000000000;", "person a; ^months 5;",
            "person p, ".replace(",", "^,"), "person p\u0000;".replace("\u0000", "^\u0000"), "person \u00e4;".replace("\u00e4", "^\u00e4")};
        for (String text : cannotStand) {
            book(text, 1);
        }
        for (String word : NO_NAMES) {
            book("person ^" + word + ";", 1);
            book("bank ^" + word + ";", 1);
            book(BASE + "trust t at b of p for x ^" + word + " 1;", 1);
        }
        String[] taken = {"person p; person ^p;", "person p; bank ^p;", "bank p; person ^p;", BASE + "bank ^c;",
            BASE + "single ^p at b of p 1;", BASE + "single ^b at b of p 1;", BASE + "single s at b of p 1; plan ^s at b of q 1;",
            BASE + "single s at b of p 1; person ^s;", BASE + "single s at b of p 1; bank ^s;", BASE + "trust ^p at x of y;"};
        for (String text : taken) {
            book(text, 2);
        }
        String[] unknown = {"single s at ^x of p 1;", BASE + "single s at ^p of p 1;", BASE + "single s at b of ^x 1;",
            BASE + "single s at b of ^b 1;", BASE + "single s at b of ^s 1;", BASE + "joint j at b of p ^p 1;",
            BASE + "joint j at b of p q ^p 1;", BASE + "joint j at b of p ^x;", BASE + "trust t at b of p ^p for x 1;",
            BASE + "trust t at b of p for x y ^x 1;", BASE + "trust t at b of p for p ^p 1;", BASE + "loan ^x at b 1;",
            BASE + "loan ^b at b 1;", BASE + "loan p at ^x 1;", BASE + "loan p at ^q 1;", "bank b; single s at b of ^a 1; person a;",
            "person a; single s at ^b of a 1; bank b;"};
        for (String text : unknown) {
            book(text, 3);
        }
        String[] outside = {"limit ^0;", "limit ^100000001;", "limit ^999999999;", "limit ^000;", "grace ^61;",
            "grace ^100000001;", BASE + "single s at b of p ^100000001;", BASE + "loan p at b ^100000001;",
            BASE + "single s at b of p 1 term ^0;", BASE + "single s at b of p 1 term ^61;", BASE + "joint j at b of p ^100000001;"};
        for (String text : outside) {
            book(text, 4);
        }
        String[] none = {"limit 1; limit 100000000; limit 000000001; grace 0; grace 60; grace 000000000;",
            BASE + "single s at b of p 100000000 term 60; single t at b of p 0 term 1; loan p at b 100000000; loan p at b 0;",
            BASE + "trust t at b of p for p 1; trust u at b of p q for x y z p q r 1;",
            BASE + "trust t at b of p for x b t s 1; person x; single s at b of x 1;",
            BASE + "person s; joint j at b of p q r s 1; joint k at b of s r 1; loan p at b 1; loan p at b 1;"};
        for (String text : none) {
            book(text, 0);
        }
    }

    private static void promise6FaultsOfCounts() {
        String people = "person a;person b;person c;person d;person e;person f;person g;person h;person i;person j;";
        book(people, 0);
        book(people + "person ^k;", 5);
        book(people + "person ^a;", 2);
        book(people + "person ^5;", 1);
        String banks = "bank a;bank b;bank c;bank d;bank e;bank f;";
        book(banks, 0);
        book(banks + "bank ^g;", 5);
        book(banks + "bank ^f;", 2);
        StringBuilder b = new StringBuilder("person pp;bank bb;");
        for (char c = 'a'; c <= 'x'; c++) {
            b.append("firm ").append(c).append(" at bb of pp 1;");
        }
        book(b.toString(), 0);
        book(b + "firm ^y at bb of pp 1;", 5);
        book(b + "firm ^a at bb of pp 1;", 2);
        String loans = BASE + "loan p at b 1;".repeat(10);
        book(loans, 0);
        book(loans + "^loan p at b 1;", 5);
        book(loans + "^loan 7", 5);
        book(BASE + "single s at b of p ^q 1;", 5);
        book(BASE + "single s at b of p ^x 1;", 3);
        book(BASE + "single s at b of p ^p 1;", 3);
        book(BASE + "plan s at b of p ^q 1;", 5);
        book(BASE + "firm s at b of p ^q 1;", 5);
        book(BASE + "trust s at b of p q ^r for x 1;", 5);
        book(BASE + "trust s at b of p q for x 1;", 0);
        String five = BASE + "person s; person t; ";
        book(five + "joint j at b of p q r s 1;", 0);
        book(five + "joint j at b of p q r s ^t 1;", 5);
        book(five + "joint j at b of p q r s ^s 1;", 3);
        book(BASE + "trust t at b of p for d e f g h i 1;", 0);
        book(BASE + "trust t at b of p for d e f g h i ^j 1;", 5);
        book(BASE + "trust t at b of p for d e f g h i ^i 1;", 3);
        book(BASE + "joint j at b of p ^1;", 6);
        book(BASE + "joint j at b of p ^0;", 6);
        book(BASE + "joint j at b of p ^100000000;", 6);
        // the first by its place
        book(BASE + "joint j at b of p ^1; limit 0;", 6);
        book("limit ^0; x", 4);
        book(BASE + "single ^p at x of y 100000001;", 2);
    }

    private static void promise6FaultsOfDays() {
        String[] cannotStand = {"^x;", "^5;", "^;", "^person x;", "^limit 5;", "^into;", "put ^s 5;", "put 5 ^;", "put 5 s^",
            "put 5 s ^s;", "put 5 ^6 s;", "put 5 ^at;", "put ^1000000000 s;", "take ^;", "merge ^5;", "merge b ^c;",
            "merge b into ^;", "merge b into ^into;", "months ^;", "months ^s;", "months 5 ^s;", "pay ^p 5;", "pay 0^;",
            "pay 0 ^s;", "pay 0 5 ^5;", "fail ^5;", "fail b^;", "fail b ^c;", "fail b 5 ^5;", "put 5 ^abcdefghi;", "put^",
            "months 5;^$"};
        for (String text : cannotStand) {
            fault(true, text, 1);
        }
        String[] unknown = {"put 5 ^x;", "put 5 ^b;", "put 5 ^p;", "take 5 ^x;", "merge ^x into b;", "merge ^s into b;",
            "merge b into ^x;", "merge b into ^p;", "fail ^x 5;", "fail ^s 5;"};
        for (String text : unknown) {
            fault(true, text, 3);
        }
        String[] outside = {"put ^100000001 s;", "put ^100000001 x;", "take ^100000001 s;", "months ^100000001;",
            "pay ^100000001 5;", "pay 0 ^100000001;", "fail b ^100000001;", "months 5; put ^999999999 s"};
        for (String text : outside) {
            fault(true, text, 4);
        }
        String[] none = {"", "put 100000000 s;", "put 0 s;take 0 s;", "months 100000000;", "pay 100000000 100000000;",
            "fail b 100000000;", "merge b into b;", "pay 0 0;", "months 0;", "fail b 0;", "put5s;\n months\n5\n;"};
        for (String text : none) {
            fault(true, text, 0);
        }
    }

    private static void promise6Fault() {
        CoverDesk d = new CoverDesk();
        is("fault(0) at first", d.fault(0), 0);
        is("fault(1) at first", d.fault(1), -1);
        Check.book(d, "limit 0;");
        is("fault(0)", d.fault(0), 4);
        is("fault(1)", d.fault(1), 6);
        is("fault(2)", d.fault(2), -1);
        is("fault(-1)", d.fault(-1), -1);
        is("fault(MIN)", d.fault(Integer.MIN_VALUE), -1);
        Check.tell(d, "5");
        d.named(0);
        is("named() is no reading", d.fault(0), 4);
        d.day();
        is("the latest has none", d.fault(0), 0);
        is("nor a place", d.fault(1), -1);
        Check.day(d, "x");
        is("of a day", d.fault(1), 0);
        d.book();
        is("of the book behind it", d.fault(0), 0);
    }

    private static int named(CoverDesk d, String text, int what) {
        Check.tell(d, text);
        int n = d.named(what);
        is("the tape is empty", d.look(8), 0);
        return n;
    }

    private static void promise7Named() {
        CoverDesk d = Check.desk(BASE + "trust s at b of p for heir 1; single longname at c of q 2;");
        is("a person", named(d, "r", 0), 2);
        is("a bank", named(d, "c", 1), 1);
        is("an account", named(d, "longname", 2), 1);
        is("blanks aside", named(d, " \n s \n", 2), 0);
        is("a bank is no person", named(d, "b", 0), -1);
        is("a person is no bank", named(d, "p", 1), -1);
        is("a person is no account", named(d, "p", 2), -1);
        is("an heir is none", named(d, "heir", 0), -1);
        is("another what", named(d, "p", 3), -1);
        String[] alike = {"a", "b", "aa", "ab", "ba", "bb", "az", "za", "zz", "aaa"};
        StringBuilder many = new StringBuilder();
        for (String name : alike) {
            many.append("person ").append(name).append(';');
        }
        CoverDesk m = Check.desk(many.toString());
        for (int i = 0; i < alike.length; i++) {
            is("named " + alike[i], named(m, alike[i], 0), i);
        }
        for (String name : new String[] {"c", "ac", "ca", "z", "aaaa", "aaaaaaaa", "aab", "baa"}) {
            is("named " + name, named(m, name, 0), -1);
        }
        is("another what below", named(d, "p", -1), -1);
        is("none", named(d, "", 0), -1);
        is("blanks", named(d, " ", 0), -1);
        is("not alone", named(d, "p q", 0), -1);
        is("not alone: ;", named(d, "p;", 0), -1);
        is("not alone: N", named(d, "p1", 0), -1);
        is("not alone: in front", named(d, "1p", 0), -1);
        is("a word", named(d, "person", 0), -1);
        is("nine letters", named(d, "longnamex", 2), -1);
        is("less letters", named(d, "longnam", 2), -1);
        is("a sign", named(d, "P", 0), -1);
    }

    private static void promise33Look() {
        CoverDesk d = Check.desk("limit 7; grace 0;" + BASE + "single s at b of p 1; loan p at b 5; loan p at b 6;");
        Check.day(d, "months 3; put 1 s;");
        d.put(0, 1);
        Check.tell(d, "abc");
        long[] due = {3, 2, 1, 2, 3, 7, 0, 2, 3, 2};
        for (int i = 0; i < due.length; i++) {
            is("look(" + i + ")", d.look(i), due[i]);
        }
        is("look(10)", d.look(10), -1);
        is("look(-1)", d.look(-1), -1);
        is("look(MIN)", d.look(Integer.MIN_VALUE), -1);
        is("look(MAX)", d.look(Integer.MAX_VALUE), -1);
    }
}
