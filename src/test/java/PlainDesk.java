import java.math.BigInteger;
import java.util.ArrayDeque;
import java.util.ArrayList;
import java.util.Comparator;
import java.util.Deque;
import java.util.HashMap;
import java.util.LinkedHashSet;
import java.util.List;
import java.util.Map;
import java.util.Set;
import java.util.TreeSet;
import java.util.function.ToLongFunction;
import java.util.regex.Matcher;
import java.util.regex.Pattern;

/**
 * The document a second time, in a plainer way: texts, lists and copies of the whole world, every month looked at,
 * every "what if" really done to a copy. It shares nothing with CoverDesk but the numbers of the face.
 */
final class PlainDesk {
    static final int NONE = -1;
    static final int MAX = 100000000;
    static final List<String> KINDS = List.of("single", "joint", "trust", "plan", "firm");
    static final Set<String> NO_NAMES = Set.of("person", "bank", "limit", "grace", "at", "of", "for", "term", "loan",
            "single", "joint", "trust", "plan", "firm", "put", "take", "merge", "into", "months", "pay", "fail");

    record Merger(int into, int month, int grace) { }

    static final class Account {
        String name;
        int kind;
        int home;
        long coins;
        int term;
        List<Integer> owners = new ArrayList<>();
        List<String> heirs = new ArrayList<>();

        Account copy() {
            Account c = new Account();
            c.name = name;
            c.kind = kind;
            c.home = home;
            c.coins = coins;
            c.term = term;
            c.owners.addAll(owners);
            c.heirs.addAll(heirs);
            return c;
        }

        /** Deals the coins out as cards: one each in turn. */
        long share(int k) {
            long each = coins / owners.size();
            long dealt = each * owners.size();
            for (int i = 0; dealt < coins; i++, dealt++) {
                if (i == k) {
                    return each + 1;
                }
            }
            return each;
        }
    }

    static final class Loan {
        int person;
        int home;
        long coins;
    }

    /** What one owner of one account got by a failing. */
    static final class Lot {
        long open;
        long safe;
        long setOff;
        long divided;
        long lost;
    }

    static final class Failed {
        int bank;
        long toLast;
        Map<List<Integer>, Lot> lots = new HashMap<>();

        long sum(ToLongFunction<Lot> of) {
            return lots.values().stream().mapToLong(of).sum();
        }
    }

    static final class World {
        List<String> people = new ArrayList<>();
        List<String> banks = new ArrayList<>();
        List<Account> accounts = new ArrayList<>();
        List<Loan> loans = new ArrayList<>();
        Map<Integer, Merger> mergers = new HashMap<>();
        Set<Integer> failed = new TreeSet<>();
        int limit = 250000;
        int grace = 6;
        int month = 0;
        Failed latest;

        World copy() {
            World w = new World();
            w.people.addAll(people);
            w.banks.addAll(banks);
            accounts.forEach(a -> w.accounts.add(a.copy()));
            for (Loan l : loans) {
                Loan c = new Loan();
                c.person = l.person;
                c.home = l.home;
                c.coins = l.coins;
                w.loans.add(c);
            }
            w.mergers.putAll(mergers);
            w.failed.addAll(failed);
            w.limit = limit;
            w.grace = grace;
            w.month = month;
            w.latest = latest;
            return w;
        }

        boolean open(int bank) {
            return bank >= 0 && bank < banks.size() && !mergers.containsKey(bank) && !failed.contains(bank);
        }

        int nowAt(int home) {
            return mergers.containsKey(home) ? nowAt(mergers.get(home).into) : home;
        }

        static int end(Merger m, int term) {
            int least = m.month + m.grace;
            if (term == 0) {
                return least;
            }
            int n = 1;
            while (n < least || n % term != 0) {
                n++;
            }
            return n;
        }

        int countedAt(Account a, int month) {
            int bank = a.home;
            while (mergers.containsKey(bank) && !(month < end(mergers.get(bank), a.term))) {
                bank = mergers.get(bank).into;
            }
            return bank;
        }

        List<Account> groupOf(int person, int kind, int bank, int month) {
            List<Account> all = new ArrayList<>();
            for (Account a : accounts) {
                if (a.kind == kind && a.owners.contains(person) && countedAt(a, month) == bank) {
                    all.add(a);
                }
            }
            return all;
        }

        long together(int person, List<Account> group) {
            return group.stream().mapToLong(a -> a.share(a.owners.indexOf(person))).sum();
        }

        long most(int person, int kind, List<Account> group) {
            if (group.isEmpty()) {
                return 0;
            }
            if (!KINDS.get(kind).equals("trust")) {
                return limit;
            }
            Set<String> heirs = new LinkedHashSet<>();
            group.forEach(a -> heirs.addAll(a.heirs));
            heirs.remove(people.get(person));
            int times = heirs.isEmpty() ? 1 : Math.min(5, heirs.size());
            return (long) limit * times;
        }

        long insured(Account a, int k, int month) {
            int person = a.owners.get(k);
            List<Account> group = groupOf(person, a.kind, countedAt(a, month), month);
            List<Long> shares = group.stream().map(g -> g.share(g.owners.indexOf(person))).toList();
            return dealt(most(person, a.kind, group), shares).get(group.indexOf(a));
        }

        long insured(Account a, int month) {
            long sum = 0;
            for (int k = 0; k < a.owners.size(); k++) {
                sum += insured(a, k, month);
            }
            return sum;
        }

        long insuredOfAll() {
            return accounts.stream().mapToLong(a -> insured(a, month)).sum();
        }

        long[] of(int person, int month) {
            long all = 0;
            long safe = 0;
            for (Account a : accounts) {
                int k = a.owners.indexOf(person);
                if (k >= 0) {
                    all += a.share(k);
                    safe += insured(a, k, month);
                }
            }
            return new long[] {all, safe, all - safe};
        }

        boolean fail(int bank, int estate) {
            if (!open(bank) || estate < 0 || estate > MAX) {
                return false;
            }
            Failed f = new Failed();
            f.bank = bank;
            List<Lot> order = new ArrayList<>();
            for (int a = 0; a < accounts.size(); a++) {
                Account account = accounts.get(a);
                if (nowAt(account.home) != bank) {
                    continue;
                }
                for (int k = 0; k < account.owners.size(); k++) {
                    Lot lot = new Lot();
                    lot.safe = insured(account, k, month);
                    lot.open = account.share(k) - lot.safe;
                    f.lots.put(List.of(a, k), lot);
                    order.add(lot);
                }
            }
            for (Loan loan : loans) {
                if (nowAt(loan.home) == bank) {
                    setOff(f, loan);
                }
            }
            List<Long> claims = new ArrayList<>();
            order.forEach(lot -> claims.add(lot.open));
            claims.add(f.sum(lot -> lot.safe));
            List<Long> got = dealt(estate, claims);
            for (int i = 0; i < order.size(); i++) {
                order.get(i).divided = got.get(i);
                order.get(i).lost = order.get(i).open - got.get(i);
            }
            f.toLast = got.get(order.size());
            for (Account account : accounts) {
                if (nowAt(account.home) == bank) {
                    account.coins = 0;
                }
            }
            failed.add(bank);
            latest = f;
            return true;
        }

        private void setOff(Failed f, Loan loan) {
            for (int round = 0; round < 2; round++) {
                for (int a = 0; a < accounts.size(); a++) {
                    Lot lot = f.lots.get(List.of(a, accounts.get(a).owners.indexOf(loan.person)));
                    if (lot == null) {
                        continue;
                    }
                    long coins = Math.min(loan.coins, round == 0 ? lot.open : lot.safe);
                    loan.coins -= coins;
                    lot.setOff += coins;
                    if (round == 0) {
                        lot.open -= coins;
                    } else {
                        lot.safe -= coins;
                    }
                }
            }
        }
    }

    /** What each part gets of the coins: all of it if they suffice, else by its part, the rests to the greatest. */
    static List<Long> dealt(long coins, List<Long> parts) {
        long all = parts.stream().mapToLong(Long::longValue).sum();
        if (coins >= all) {
            return parts;
        }
        List<Long> got = new ArrayList<>();
        List<BigInteger> rests = new ArrayList<>();
        List<Integer> places = new ArrayList<>();
        long left = coins;
        for (int i = 0; i < parts.size(); i++) {
            BigInteger[] both = BigInteger.valueOf(coins).multiply(BigInteger.valueOf(parts.get(i)))
                    .divideAndRemainder(BigInteger.valueOf(all));
            got.add(both[0].longValueExact());
            rests.add(both[1]);
            places.add(i);
            left -= got.get(i);
        }
        places.sort(Comparator.comparing((Integer i) -> rests.get(i)).reversed().thenComparing(i -> i));
        for (int i = 0; i < left; i++) {
            int place = places.get(i);
            got.set(place, got.get(place) + 1);
        }
        return got;
    }

    // ---- texts: all faults are gathered, then the first by place, of one place the least, is taken ----

    record Token(String text, int place) { }

    record Fault(int place, int number) { }

    static final class Stop extends RuntimeException {
        private static final long serialVersionUID = 1L;
    }

    static final class Text {
        final List<Token> tokens = new ArrayList<>();
        final List<Fault> faults = new ArrayList<>();
        int at = 0;

        Text(String tape) {
            Matcher m = Pattern.compile("[a-z]+|[0-9]+|[^ \n]", Pattern.DOTALL).matcher(tape);
            while (m.find()) {
                tokens.add(new Token(m.group(), m.start()));
            }
            tokens.add(new Token("", tape.length()));
        }

        Token here() {
            return tokens.get(at);
        }

        boolean atEnd() {
            return here().text.isEmpty();
        }

        void note(int number) {
            faults.add(new Fault(here().place, number));
        }

        void stop() {
            note(1);
            throw new Stop();
        }

        boolean isName() {
            return here().text.matches("[a-z]{1,8}") && !NO_NAMES.contains(here().text);
        }

        boolean is(String word) {
            return here().text.equals(word);
        }

        void word(String word) {
            if (!is(word)) {
                stop();
            }
            at++;
        }

        String name() {
            if (!isName()) {
                stop();
            }
            return tokens.get(at++).text;
        }

        int number(int least, int most) {
            if (!here().text.matches("[0-9]{1,9}")) {
                stop();
            }
            int n = Integer.parseInt(here().text);
            if (n < least || n > most) {
                note(4);
            }
            at++;
            return n;
        }

        int known(List<String> names) {
            int n = names.indexOf(here().text);
            if (isName() && n < 0) {
                note(3);
            }
            name();
            return n;
        }

        Fault first() {
            return faults.stream().min(Comparator.comparingInt(Fault::place).thenComparingInt(Fault::number))
                    .orElse(null);
        }
    }

    String tape = "";
    World world = new World();
    Deque<World> past = new ArrayDeque<>();
    Fault fault;
    int deedsTold;

    int feed(int... five) {
        if (tape.length() + 20 > 700) {
            return NONE;
        }
        StringBuilder b = new StringBuilder(tape);
        for (int n : five) {
            b.append((char) (n >>> 24)).append((char) (n >>> 16 & 255)).append((char) (n >>> 8 & 255))
                    .append((char) (n & 255));
        }
        tape = b.toString();
        return tape.length();
    }

    boolean end(int n) {
        if (n < 0 || n > tape.length()) {
            return false;
        }
        tape = tape.substring(0, n);
        return true;
    }

    int book() {
        Text t = new Text(tape);
        tape = "";
        World w = new World();
        try {
            while (!t.atEnd()) {
                line(t, w);
                t.word(";");
            }
        } catch (Stop stop) {
            // the faults tell why
        }
        fault = t.first();
        if (fault != null) {
            return NONE;
        }
        world = w;
        past.clear();
        return w.accounts.size();
    }

    private static String newName(Text t, World w, boolean full) {
        String name = t.here().text;
        boolean taken = w.people.contains(name) || w.banks.contains(name)
                || w.accounts.stream().anyMatch(a -> a.name.equals(name));
        if (t.isName() && taken) {
            t.note(2);
        }
        if (t.isName() && full) {
            t.note(5);
        }
        return t.name();
    }

    private static void line(Text t, World w) {
        String first = t.here().text;
        if (first.equals("person")) {
            t.at++;
            w.people.add(newName(t, w, w.people.size() == 10));
        } else if (first.equals("bank")) {
            t.at++;
            w.banks.add(newName(t, w, w.banks.size() == 6));
        } else if (first.equals("limit")) {
            t.at++;
            w.limit = t.number(1, MAX);
        } else if (first.equals("grace")) {
            t.at++;
            w.grace = t.number(0, 60);
        } else if (first.equals("loan")) {
            if (w.loans.size() == 10) {
                t.note(5);
            }
            t.at++;
            Loan loan = new Loan();
            loan.person = t.known(w.people);
            t.word("at");
            loan.home = t.known(w.banks);
            loan.coins = t.number(0, MAX);
            w.loans.add(loan);
        } else if (KINDS.contains(first)) {
            t.at++;
            account(t, w, first);
        } else {
            t.stop();
        }
    }

    private static void account(Text t, World w, String kind) {
        Account a = new Account();
        a.kind = KINDS.indexOf(kind);
        a.name = newName(t, w, w.accounts.size() == 24);
        t.word("at");
        a.home = t.known(w.banks);
        t.word("of");
        int most = kind.equals("joint") ? 4 : kind.equals("trust") ? 2 : 1;
        do {
            if (t.isName() && a.owners.size() >= most) {
                t.note(5);
            }
            if (t.isName() && w.people.contains(t.here().text) && a.owners.contains(w.people.indexOf(t.here().text))) {
                t.note(3);
            }
            a.owners.add(t.known(w.people));
        } while (t.isName());
        if (kind.equals("trust")) {
            t.word("for");
            do {
                if (t.isName() && a.heirs.contains(t.here().text)) {
                    t.note(3);
                }
                if (t.isName() && a.heirs.size() >= 6) {
                    t.note(5);
                }
                a.heirs.add(t.name());
            } while (t.isName());
        }
        if (kind.equals("joint") && a.owners.size() < 2 && t.here().text.matches("[0-9]+")) {
            t.note(6);
        }
        a.coins = t.number(0, MAX);
        if (t.is("term")) {
            t.at++;
            a.term = t.number(1, 60);
        }
        w.accounts.add(a);
    }

    record Deed(String what, int one, int other) { }

    int day() {
        Text t = new Text(tape);
        tape = "";
        List<Deed> deeds = new ArrayList<>();
        try {
            while (!t.atEnd()) {
                deeds.add(deed(t));
                t.word(";");
            }
        } catch (Stop stop) {
            // the faults tell why
        }
        fault = t.first();
        if (fault != null) {
            return NONE;
        }
        deedsTold = deeds.size();
        World before = world.copy();
        int done = 0;
        for (Deed d : deeds) {
            if (!act(d.what, d.one, d.other)) {
                break;
            }
            done++;
        }
        if (done > 0) {
            remember(before);
        }
        return done;
    }

    private Deed deed(Text t) {
        String what = t.here().text;
        List<String> accounts = world.accounts.stream().map(a -> a.name).toList();
        if (what.equals("put") || what.equals("take")) {
            t.at++;
            int n = t.number(0, MAX);
            return new Deed(what, t.known(accounts), n);
        } else if (what.equals("merge")) {
            t.at++;
            int bank = t.known(world.banks);
            t.word("into");
            return new Deed(what, bank, t.known(world.banks));
        } else if (what.equals("months")) {
            t.at++;
            return new Deed(what, t.number(0, MAX), 0);
        } else if (what.equals("pay")) {
            t.at++;
            int loan = t.number(0, MAX);
            return new Deed(what, loan, t.number(0, MAX));
        } else if (what.equals("fail")) {
            t.at++;
            int bank = t.known(world.banks);
            return new Deed(what, bank, t.number(0, MAX));
        }
        t.stop();
        return null;
    }

    private void remember(World before) {
        past.addLast(before);
        if (past.size() > 6) {
            past.removeFirst();
        }
    }

    private boolean act(String what, int one, int other) {
        World w = world;
        boolean coinsFine = other >= 1 && other <= MAX;
        boolean isAccount = one >= 0 && one < w.accounts.size();
        switch (what) {
            case "put": {
                if (!isAccount || !coinsFine) {
                    return false;
                }
                Account a = w.accounts.get(one);
                if (a.coins + other > MAX || w.failed.contains(w.nowAt(a.home))) {
                    return false;
                }
                a.coins += other;
                return true;
            }
            case "take": {
                if (!isAccount || !coinsFine) {
                    return false;
                }
                Account a = w.accounts.get(one);
                if (a.coins - other < 0) {
                    return false;
                }
                a.coins -= other;
                return true;
            }
            case "merge": {
                if (one == other || !w.open(one) || !w.open(other)) {
                    return false;
                }
                w.mergers.put(one, new Merger(other, w.month, w.grace));
                return true;
            }
            case "months": {
                if (one < 1 || one > 99 || w.month + one > 999) {
                    return false;
                }
                w.month += one;
                return true;
            }
            case "pay": {
                if (one < 0 || one >= w.loans.size() || !coinsFine) {
                    return false;
                }
                Loan l = w.loans.get(one);
                if (l.coins - other < 0) {
                    return false;
                }
                l.coins -= other;
                return true;
            }
            default:
                return w.fail(one, other);
        }
    }

    boolean call(String what, int one, int other) {
        World before = world.copy();
        boolean done = act(what, one, other);
        if (done) {
            remember(before);
        }
        return done;
    }

    boolean undo() {
        if (past.isEmpty()) {
            return false;
        }
        world = past.removeLast();
        return true;
    }

    int fault(int what) {
        if (what == 0) {
            return fault == null ? 0 : fault.number;
        }
        return what == 1 && fault != null ? fault.place : NONE;
    }

    int named(int what) {
        String name = tape.replaceAll("^[ \n]+|[ \n]+$", "");
        tape = "";
        if (what == 0) {
            return world.people.indexOf(name);
        }
        if (what == 1) {
            return world.banks.indexOf(name);
        }
        return what == 2 ? world.accounts.stream().map(a -> a.name).toList().indexOf(name) : NONE;
    }

    private boolean person(int person) {
        return person >= 0 && person < world.people.size();
    }

    private boolean month(int month) {
        return month >= 0 && month <= 999;
    }

    private Account at(int account) {
        return account >= 0 && account < world.accounts.size() ? world.accounts.get(account) : null;
    }

    int account(int account, int what) {
        Account a = at(account);
        World w = world;
        if (a == null) {
            return -2;
        }
        switch (what) {
            case 0: return a.kind;
            case 1: return a.home;
            case 2: return w.nowAt(a.home);
            case 3: return w.countedAt(a, w.month);
            case 4: return (int) a.coins;
            case 5: return a.owners.size();
            case 6: return a.heirs.size();
            case 7: return a.term;
            case 8: return (int) w.insured(a, w.month);
            case 9:
                for (int m = w.month + 1; m < 2000; m++) {
                    if (w.countedAt(a, m) != w.countedAt(a, w.month)) {
                        return m;
                    }
                }
                return NONE;
            default: return -2;
        }
    }

    int owner(int account, int k, int what) {
        Account a = at(account);
        if (a == null || k < 0 || k >= a.owners.size() || what < 0 || what > 2) {
            return NONE;
        }
        return (int) (what == 0 ? a.owners.get(k) : what == 1 ? a.share(k) : world.insured(a, k, world.month));
    }

    int bank(int bank, int what) {
        World w = world;
        if (bank < 0 || bank >= w.banks.size()) {
            return -2;
        }
        Merger m = w.mergers.get(bank);
        switch (what) {
            case 0: return m == null ? NONE : m.into;
            case 1: return m == null ? NONE : m.month;
            case 2: return w.failed.contains(bank) ? 1 : 0;
            case 3: return (int) w.accounts.stream().filter(a -> w.nowAt(a.home) == bank).count();
            case 4: return (int) w.accounts.stream().filter(a -> w.countedAt(a, w.month) == bank).count();
            default: return -2;
        }
    }

    long held(int bank, int what) {
        World w = world;
        if (bank < 0 || bank >= w.banks.size() || what < 0 || what > 2) {
            return NONE;
        }
        if (what == 2) {
            return w.loans.stream().filter(l -> w.nowAt(l.home) == bank).mapToLong(l -> l.coins).sum();
        }
        return w.accounts.stream().filter(a -> w.nowAt(a.home) == bank)
                .mapToLong(a -> what == 0 ? a.coins : w.insured(a, w.month)).sum();
    }

    long group(int person, int kind, int bank, int month, int what) {
        if (!person(person) || kind < 0 || kind > 4 || bank < 0 || bank >= world.banks.size() || !month(month)
                || what < 0 || what > 3) {
            return NONE;
        }
        List<Account> group = world.groupOf(person, kind, bank, month);
        long sum = world.together(person, group);
        long most = world.most(person, kind, group);
        return new long[] {sum, most, Math.min(sum, most), group.size()}[what];
    }

    long of(int person, int month, int what) {
        return person(person) && month(month) && what >= 0 && what <= 2 ? world.of(person, month)[what] : NONE;
    }

    int warns(int person) {
        if (!person(person)) {
            return NONE;
        }
        long open = world.of(person, world.month)[2];
        for (int m = world.month + 1; m <= 999; m++) {
            if (world.of(person, m)[2] > open) {
                return m;
            }
        }
        return NONE;
    }

    long came(int account, int k, int what) {
        Lot lot = world.latest == null ? null : world.latest.lots.get(List.of(account, k));
        if (lot == null || what < 0 || what > 3) {
            return NONE;
        }
        return new long[] {lot.setOff, lot.safe, lot.divided, lot.lost}[what];
    }

    long total(int what) {
        Failed f = world.latest;
        if (f == null || what < 0 || what > 5) {
            return NONE;
        }
        return new long[] {f.bank, f.sum(l -> l.setOff), f.sum(l -> l.safe), f.sum(l -> l.divided), f.toLast,
            f.sum(l -> l.lost)}[what];
    }

    int loan(int loan, int what) {
        if (loan < 0 || loan >= world.loans.size() || what < 0 || what > 2) {
            return NONE;
        }
        Loan l = world.loans.get(loan);
        return (int) (what == 0 ? l.person : what == 1 ? world.nowAt(l.home) : l.coins);
    }

    private long single(int person, int bank) {
        return world.together(person, world.groupOf(person, 0, bank, world.month));
    }

    private long[][] excessAndRoom(int person) {
        long[][] both = new long[2][world.banks.size()];
        for (int b = 0; b < world.banks.size(); b++) {
            long has = single(person, b);
            if (has > world.limit) {
                both[0][b] = has - world.limit;
            } else if (world.open(b)) {
                both[1][b] = world.limit - has;
            }
        }
        return both;
    }

    long moves(int person, int what) {
        if (!person(person) || what < 0 || what > 2) {
            return NONE;
        }
        long[][] both = excessAndRoom(person);
        long excess = 0;
        long room = 0;
        int best = NONE;
        for (int b = 0; b < both[0].length; b++) {
            excess += both[0][b];
            room += both[1][b];
            if (both[1][b] > 0 && (best == NONE || both[1][b] > both[1][best])) {
                best = b;
            }
        }
        return what == 0 ? Math.max(excess - room, 0) : what == 1 ? Math.min(excess, room) : best;
    }

    long move(int person, int i, int what) {
        if (!person(person)) {
            return NONE;
        }
        long[][] both = excessAndRoom(person);
        List<long[]> moves = new ArrayList<>();
        for (int b = 0; b < both[0].length; b++) {
            while (both[0][b] > 0) {
                int to = 0;
                while (to < both[1].length && both[1][to] == 0) {
                    to++;
                }
                if (to == both[1].length) {
                    break;
                }
                long coins = Math.min(both[0][b], both[1][to]);
                both[0][b] -= coins;
                both[1][to] -= coins;
                moves.add(new long[] {b, to, coins});
            }
        }
        if (i == NONE) {
            return moves.size();
        }
        return i >= 0 && i < moves.size() && what >= 0 && what <= 2 ? moves.get(i)[what] : NONE;
    }

    private static boolean plainKind(int kind) {
        return kind == 0 || kind == 3 || kind == 4;
    }

    private long insuredAs(int account, int kind) {
        World w = world.copy();
        w.accounts.get(account).kind = kind;
        return w.insuredOfAll();
    }

    int bestKind(int account) {
        Account a = at(account);
        if (a == null || !plainKind(a.kind)) {
            return NONE;
        }
        long best = Math.max(insuredAs(account, 0), Math.max(insuredAs(account, 3), insuredAs(account, 4)));
        if (insuredAs(account, a.kind) == best) {
            return a.kind;
        }
        return insuredAs(account, 0) == best ? 0 : insuredAs(account, 3) == best ? 3 : 4;
    }

    int change(int i) {
        List<Integer> changes = new ArrayList<>();
        for (int m = world.month + 1; m <= 999; m++) {
            int month = m;
            if (world.accounts.stream().anyMatch(a -> world.countedAt(a, month) != world.countedAt(a, month - 1))) {
                changes.add(m);
            }
        }
        if (i == NONE) {
            return changes.size();
        }
        return i >= 0 && i < changes.size() ? changes.get(i) : NONE;
    }

    int rank(int i) {
        List<Integer> ranks = new ArrayList<>();
        Map<Integer, Long> open = new HashMap<>();
        for (int p = 0; p < world.people.size(); p++) {
            ranks.add(p);
            open.put(p, world.of(p, world.month)[2]);
        }
        ranks.sort(Comparator.comparing((Integer p) -> open.get(p)).reversed().thenComparing(p -> p));
        return i >= 0 && i < ranks.size() ? ranks.get(i) : NONE;
    }

    long asKind(int account, int kind) {
        Account a = at(account);
        if (a == null || !plainKind(a.kind) || !plainKind(kind) || a.kind == kind) {
            return Long.MIN_VALUE;
        }
        return insuredAs(account, kind) - world.insuredOfAll();
    }

    long heirMore(int account) {
        Account a = at(account);
        if (a == null || a.kind != 2 || a.heirs.size() == 6) {
            return NONE;
        }
        World w = world.copy();
        w.accounts.get(account).heirs.add("Nobody");
        return w.insuredOfAll() - world.insuredOfAll();
    }

    long worst(int what) {
        int worst = NONE;
        long most = NONE;
        for (int b = 0; b < world.banks.size(); b++) {
            World w = world.copy();
            if (w.fail(b, 0) && w.latest.sum(l -> l.lost) > most) {
                most = w.latest.sum(l -> l.lost);
                worst = b;
            }
        }
        return what == 0 ? worst : what == 1 && worst != NONE ? most : NONE;
    }

    int look(int what) {
        int[] all = {world.people.size(), world.banks.size(), world.accounts.size(), world.loans.size(), world.month,
            world.limit, world.grace, past.size(), tape.length(), deedsTold};
        return what >= 0 && what < all.length ? all[what] : NONE;
    }
}
