import java.util.ArrayList;
import java.util.List;
import java.util.Random;

/** Random runs, always the same ones, each call asked of CoverDesk and of PlainDesk; 512 calls of an object at most. */
public final class AgainstPlainTest {
    private static final int MOST_CALLS = 512;
    // a text of 700 bytes and what reads it, or named() of ten
    private static final int CALLS_OF_A_STEP = 60;
    private static int wrong = 0;
    private static long asked = 0;

    private final Random random;
    private final int run;
    private final CoverDesk desk = new CoverDesk();
    private final PlainDesk plain = new PlainDesk();
    private final StringBuilder told = new StringBuilder();
    private int calls = 0;
    // how seldom a text has a slip, 0: it has none
    private int slips = 0;
    private List<String> people = new ArrayList<>();
    private List<String> banks = new ArrayList<>();
    private List<String> accounts = new ArrayList<>();

    private AgainstPlainTest(int run) {
        this.run = run;
        this.random = new Random(run);
    }

    public static void main(String[] args) {
        int runs = args.length > 0 ? Integer.parseInt(args[0]) : 1000;
        int from = args.length > 1 ? Integer.parseInt(args[1]) : 1;
        for (int run = from; run < from + runs && wrong < 5; run++) {
            new AgainstPlainTest(run).go();
        }
        System.out.println("AgainstPlainTest: " + runs + " runs, " + asked + " answers, " + wrong + " wrong");
        if (wrong != 0) {
            System.exit(1);
        }
    }

    private void same(String call, long got, long due) {
        asked++;
        calls++;
        if (got != due) {
            wrong++;
            if (wrong < 5) {
                System.out.println("run " + run + ": " + call + " answered " + got + ", due is " + due + "\n  after " + told);
            }
        }
    }

    private void same(String call, boolean got, boolean due) {
        same(call, got ? 1 : 0, due ? 1 : 0);
    }

    private void go() {
        ask(20);
        book(false);
        ask(60);
        while (calls < MOST_CALLS - CALLS_OF_A_STEP) {
            step();
            ask(25);
        }
        ask(MOST_CALLS);
    }

    private void ask(int questions) {
        for (int i = 0; i < questions && calls < MOST_CALLS; i++) {
            switch (random.nextInt(5)) {
                case 0: askOfAll(); break;
                case 1: askOfAnAccount(number(plain.look(2))); break;
                case 2: askOfABank(number(plain.look(1)), number(6)); break;
                case 3: askOfAPerson(number(plain.look(0))); break;
                default: askOfAnOwner(number(plain.look(2)), number(random.nextBoolean() ? 2 : 4));
            }
        }
    }

    private void step() {
        int what = random.nextInt(20);
        if (what == 0) {
            book(random.nextInt(5) > 0);
        } else if (what == 1 && random.nextInt(4) == 0) {
            tell(random.nextBoolean() ? someBook() : mangled(someDay()));
            same("book()", desk.book(), plain.book());
        } else if (what < 7) {
            String day = someDay();
            tell(random.nextInt(6) == 0 ? mangled(day) : day);
            same("day()", desk.day(), plain.day());
        } else if (what < 9) {
            same("undo()", desk.undo(), plain.undo());
        } else if (what == 9) {
            named();
        } else {
            deed();
        }
        told.append(" | ");
    }

    private void book(boolean mangle) {
        String text = someBook();
        tell(mangle ? mangled(text) : text);
        same("book()", desk.book(), plain.book());
    }

    private void named() {
        String[] some = {word(3), "  ", "", "a b", "7", any(people), any(banks), any(accounts), "person", "abcdefghi"};
        for (String name : some) {
            int what = random.nextInt(5) - 1;
            tell(random.nextBoolean() ? name : " \n" + name + " ");
            same("named(" + what + ")", desk.named(what), plain.named(what));
        }
    }

    // ---- texts ----

    private boolean slip() {
        return slips > 0 && random.nextInt(slips) == 0;
    }

    private String any(List<String> names) {
        return names.isEmpty() || slip() ? word(2) : names.get(random.nextInt(names.size()));
    }

    private String word(int letters) {
        StringBuilder b = new StringBuilder();
        for (int i = 0; i < 1 + random.nextInt(letters); i++) {
            b.append((char) ('a' + random.nextInt(26)));
        }
        return b.toString();
    }

    @SafeVarargs
    private final String newWord(List<String>... taken) {
        for (int i = 0; i < 100 && !slip(); i++) {
            String word = word(3);
            boolean free = !PlainDesk.NO_NAMES.contains(word);
            for (List<String> t : taken) {
                free &= !t.contains(word);
            }
            if (free) {
                return word;
            }
        }
        return "full";
    }

    private int coins(int scale) {
        switch (random.nextInt(6)) {
            case 0: return random.nextInt(3);
            case 1: return scale;
            case 2: return random.nextInt(3 * scale + 1);
            default: return random.nextInt(2 * scale + 1);
        }
    }

    private int scale() {
        return new int[] {7, 50, 1000, 30000000, 50000000}[run % 5];
    }

    private String someBook() {
        slips = random.nextInt(3) == 0 ? 40 : 0;
        people = new ArrayList<>();
        banks = new ArrayList<>();
        accounts = new ArrayList<>();
        StringBuilder b = new StringBuilder();
        if (random.nextInt(8) != 0) {
            b.append("limit ").append(Math.max(1, coins(scale()))).append(';');
        }
        if (random.nextInt(3) != 0) {
            b.append("grace ").append(random.nextInt(4) == 0 ? random.nextInt(61) : random.nextInt(5)).append(';');
        }
        int n = slip() ? 0 : slip() ? 11 : 1 + random.nextInt(random.nextInt(6) == 0 ? 10 : 5);
        for (int i = 0; i < n; i++) {
            people.add(newWord(people, banks));
            b.append("person ").append(people.get(i)).append(';');
        }
        n = slip() ? 0 : slip() ? 7 : 1 + random.nextInt(6);
        for (int i = 0; i < n; i++) {
            banks.add(newWord(people, banks));
            b.append("bank ").append(banks.get(i)).append(';');
        }
        n = random.nextInt(40);
        int loans = 0;
        for (int i = 0; i < n; i++) {
            boolean loan = random.nextInt(5) == 0 && (loans < 10 || slip());
            loans += loan ? 1 : 0;
            if (!loan && accounts.size() >= 24 && !slip()) {
                break;
            }
            String line = loan ? loanLine() : accountLine();
            if (b.length() + line.length() > 700) {
                break;
            }
            b.append(line);
        }
        return b.toString();
    }

    private String loanLine() {
        return "loan " + any(people) + " at " + any(banks) + " " + coins(scale()) + ";";
    }

    private String accountLine() {
        int kind = random.nextInt(9);
        String name = newWord(people, banks, accounts);
        accounts.add(name);
        String word = kind < 5 ? PlainDesk.KINDS.get(kind) : kind < 7 ? "single" : kind == 7 ? "trust" : "joint";
        int owners = word.equals("joint") ? 2 + random.nextInt(3) : word.equals("trust") ? 1 + random.nextInt(2) : 1;
        if (word.equals("joint") && people.size() < 2) {
            word = "plan";
            owners = 1;
        }
        owners = slip() ? random.nextInt(6) : Math.min(owners, people.size());
        StringBuilder b = new StringBuilder();
        b.append(word).append(' ').append(name).append(" at ").append(any(banks)).append(" of");
        int first = people.isEmpty() ? 0 : random.nextInt(people.size());
        for (int i = 0; i < owners; i++) {
            int who = people.isEmpty() ? 0 : (first + i) % people.size();
            b.append(' ').append(people.isEmpty() || slip() ? any(people) : people.get(who));
        }
        if (word.equals("trust") != slip()) {
            b.append(" for");
            int heirs = slip() ? 7 : 1 + random.nextInt(random.nextInt(3) == 0 ? 6 : 3);
            int eldest = random.nextInt(9);
            boolean family = random.nextBoolean();
            for (int i = 0; i < heirs; i++) {
                boolean own = family && i < people.size();
                b.append(' ').append(slip() ? any(people) : own ? people.get(i) : "h" + (char) ('a' + (eldest + i) % 9));
            }
        }
        b.append(' ').append(coins(scale()));
        if (random.nextInt(3) == 0) {
            b.append(" term ").append(1 + random.nextInt(random.nextInt(4) == 0 ? 60 : 6));
        }
        return b.append(';').toString();
    }

    private String someDay() {
        slips = random.nextInt(5) == 0 ? 8 : 0;
        StringBuilder b = new StringBuilder();
        int n = random.nextInt(6);
        for (int i = 0; i < n; i++) {
            switch (random.nextInt(8)) {
                case 0:
                case 1:
                    b.append("put ").append(coins(scale())).append(' ').append(any(accounts));
                    break;
                case 2: b.append("take ").append(coins(scale())).append(' ').append(any(accounts)); break;
                case 3: b.append("merge ").append(any(banks)).append(" into ").append(any(banks)); break;
                case 4:
                case 5:
                    b.append("months ").append(random.nextInt(random.nextInt(4) == 0 ? 102 : 7));
                    break;
                case 6: b.append("pay ").append(random.nextInt(4)).append(' ').append(coins(scale())); break;
                default: b.append("fail ").append(any(banks)).append(' ').append(coins(scale()));
            }
            b.append(';');
        }
        return b.toString();
    }

    private String mangled(String text) {
        StringBuilder b = new StringBuilder(text);
        String[] bits = {" ", "\n", ";", "1", "a", "of", " for ", " term ", "9999999999", "\u00e4", "\t", "person", " at ",
            "single", "100000001", "100000000", "abcdefghi", "A", "-", " 0", " 61"};
        for (int i = 0; i < 1 + random.nextInt(2); i++) {
            int at = random.nextInt(b.length() + 1);
            switch (random.nextInt(4)) {
                case 0: b.delete(at, Math.min(b.length(), at + 1 + random.nextInt(3))); break;
                case 1: b.insert(at, bits[random.nextInt(bits.length)]); break;
                case 2: b.setLength(at); break;
                default:
                    int end = b.indexOf(" ", at);
                    if (end > at) {
                        b.replace(at, end, bits[random.nextInt(bits.length)]);
                    }
            }
        }
        if (b.length() > 700) {
            b.setLength(700);
        }
        return b.toString();
    }

    private void tell(String text) {
        told.append('[').append(text).append(']');
        int start = plain.look(8);
        for (int i = 0; i < text.length(); i += 20) {
            int[] n = new int[5];
            for (int k = 0; k < 20; k++) {
                int c = i + k < text.length() ? text.charAt(i + k) : 0;
                n[k / 4] = n[k / 4] << 8 | c;
            }
            same("feed", desk.feed(n[0], n[1], n[2], n[3], n[4]), plain.feed(n));
        }
        int end = start + text.length();
        same("end(" + end + ")", desk.end(end), plain.end(end));
    }

    // ---- deeds and questions ----

    private int number(int most) {
        switch (random.nextInt(30)) {
            case 0: return -1;
            case 1: return most;
            case 2: return Integer.MIN_VALUE;
            case 3: return Integer.MAX_VALUE;
            case 4: return -2;
            case 5: return most + 1;
            default: return random.nextInt(Math.max(1, most));
        }
    }

    private int amount() {
        switch (random.nextInt(25)) {
            case 0: return -1;
            case 1: return 100000000;
            case 2: return 100000001;
            case 3: return Integer.MAX_VALUE;
            case 4: return Integer.MIN_VALUE;
            default: return coins(scale());
        }
    }

    /** Now and then as much as there is, or one more. */
    private int near(int amount, int there) {
        switch (random.nextInt(6)) {
            case 0: return there;
            case 1: return there + 1;
            case 2: return random.nextInt(Math.max(1, there));
            default: return amount;
        }
    }

    private void deed() {
        int a = number(plain.look(2));
        int b = number(plain.look(1));
        int n = amount();
        told.append(' ');
        switch (random.nextInt(7)) {
            case 0:
                told.append("put " + a + " " + n);
                same("put", desk.put(a, n), plain.call("put", a, n));
                break;
            case 1:
                n = near(n, plain.account(a, 4));
                told.append("take " + a + " " + n);
                same("take", desk.take(a, n), plain.call("take", a, n));
                break;
            case 2:
            case 3:
                int into = number(plain.look(1));
                told.append("merge " + b + " " + into);
                same("merge", desk.merge(b, into), plain.call("merge", b, into));
                break;
            case 4:
                int months = random.nextInt(5) == 0 ? number(101) : random.nextInt(5);
                told.append("months " + months);
                same("months", desk.months(months), plain.call("months", months, 0));
                break;
            case 5:
                int loan = number(plain.look(3));
                n = near(n, plain.loan(loan, 2));
                told.append("pay " + loan + " " + n);
                same("pay", desk.pay(loan, n), plain.call("pay", loan, n));
                break;
            default:
                told.append("fail " + b + " " + n);
                same("fail", desk.fail(b, n), plain.call("fail", b, n));
        }
    }

    private void askOfAll() {
        int what = number(10);
        int i = number(6);
        switch (random.nextInt(7)) {
            case 0: same("look(" + what + ")", desk.look(what), plain.look(what)); break;
            case 1: same("change(" + i + ")", desk.change(i), plain.change(i)); break;
            case 2:
                what = number(2);
                same("fault(" + what + ")", desk.fault(what), plain.fault(what));
                break;
            case 3: same("total(" + i + ")", desk.total(i), plain.total(i)); break;
            case 4:
                what = number(2);
                same("worst(" + what + ")", desk.worst(what), plain.worst(what));
                break;
            case 5: same("rank(" + i + ")", desk.rank(i), plain.rank(i)); break;
            default:
                i = number(plain.look(3));
                what = number(3);
                same("loan(" + i + ", " + what + ")", desk.loan(i, what), plain.loan(i, what));
        }
    }

    private void askOfAnAccount(int a) {
        int what = number(10);
        int kind = number(5);
        switch (random.nextInt(5)) {
            case 0:
            case 1: same("account(" + a + ", " + what + ")", desk.account(a, what), plain.account(a, what)); break;
            case 2: same("bestKind(" + a + ")", desk.bestKind(a), plain.bestKind(a)); break;
            case 3: same("heirMore(" + a + ")", desk.heirMore(a), plain.heirMore(a)); break;
            default: same("asKind(" + a + ", " + kind + ")", desk.asKind(a, kind), plain.asKind(a, kind));
        }
    }

    private void askOfAnOwner(int a, int k) {
        int what = number(4);
        if (random.nextBoolean()) {
            same("owner(" + a + ", " + k + ", " + what + ")", desk.owner(a, k, what), plain.owner(a, k, what));
        } else {
            same("came(" + a + ", " + k + ", " + what + ")", desk.came(a, k, what), plain.came(a, k, what));
        }
    }

    private void askOfABank(int b, int what) {
        switch (random.nextInt(4)) {
            case 0: same("bank(" + b + ", " + what + ")", desk.bank(b, what), plain.bank(b, what)); break;
            case 1: same("held(" + b + ", " + what + ")", desk.held(b, what), plain.held(b, what)); break;
            default:
                int p = number(plain.look(0));
                int kind = number(5);
                int month = someMonth();
                same("group(" + p + ", " + kind + ", " + b + ", " + month + ", " + what + ")",
                        desk.group(p, kind, b, month, what), plain.group(p, kind, b, month, what));
        }
    }

    private void askOfAPerson(int p) {
        int what = number(3);
        int i = random.nextBoolean() ? -1 : number(4);
        int month = someMonth();
        switch (random.nextInt(4)) {
            case 0: same("moves(" + p + ", " + what + ")", desk.moves(p, what), plain.moves(p, what)); break;
            case 1: same("move(" + p + ", " + i + ", " + what + ")", desk.move(p, i, what), plain.move(p, i, what)); break;
            case 2: same("warns(" + p + ")", desk.warns(p), plain.warns(p)); break;
            default: same("of(" + p + ", " + month + ", " + what + ")", desk.of(p, month, what), plain.of(p, month, what));
        }
    }

    private int someMonth() {
        int choice = random.nextInt(4);
        return choice == 0 ? number(1000) : plain.look(4) + (choice == 1 ? 0 : random.nextInt(8));
    }
}
