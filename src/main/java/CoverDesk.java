import java.util.Arrays;

/** What is insured of money in banks, as ../shared/DOC.md promises it. */
public final class CoverDesk {
    public static final int NONE = -1;

    private static final int NO_SUCH = -2;

    private static final int MOST_PEOPLE = 10;
    private static final int MOST_BANKS = 6;
    private static final int MOST_ACCOUNTS = 24;
    private static final int MOST_LOANS = 10;
    private static final int MOST_OWNERS = 4;
    private static final int MOST_HEIRS = 6;
    private static final int MOST_HEIRS_INSURED = 5;
    private static final int MOST_SHARES = MOST_ACCOUNTS * MOST_OWNERS;
    private static final int MOST_COINS = 100000000;
    private static final int MOST_MONTH = 999;
    private static final int MOST_MONTHS = 99;
    private static final int MOST_GRACE = 60;
    private static final int MOST_TERM = 60;
    private static final int MOST_UNDONE = 6;
    private static final int MOST_MOVES = 2 * MOST_BANKS;

    private static final int FIRST_LIMIT = 250000;
    private static final int FIRST_GRACE = 6;

    private static final int TAPE_BYTES = 700;
    private static final int FED_BYTES = 20;
    private static final int NAME_LETTERS = 8;
    private static final int NUMBER_DIGITS = 9;
    // "put1a;" is the shortest DEED
    private static final int MOST_DEEDS = TAPE_BYTES / 6 + 1;

    // the words that are no NAMES, each by its place here; the KINDS are the first, so that place and KIND are one
    private static final String WORDS =
            "single joint trust plan firm person bank limit grace loan at of for term put take merge into months pay fail ";
    private static final int SINGLE = 0;
    private static final int JOINT = 1;
    private static final int TRUST = 2;
    private static final int PLAN = 3;
    private static final int FIRM = 4;
    private static final int PERSON = 5;
    private static final int BANK = 6;
    private static final int LIMIT = 7;
    private static final int GRACE = 8;
    private static final int LOAN = 9;
    private static final int AT = 10;
    private static final int OF = 11;
    private static final int FOR = 12;
    private static final int TERM = 13;
    private static final int PUT = 14;
    private static final int TAKE = 15;
    private static final int MERGE = 16;
    private static final int INTO = 17;
    private static final int MONTHS = 18;
    private static final int PAY = 19;
    private static final int FAIL = 20;

    // what stands at a place of THE TAPE
    private static final int END = 0;
    private static final int NAME = 1;
    private static final int RESERVED = 2;
    private static final int NUMBER = 3;
    private static final int SEMICOLON = 4;
    private static final int WRONG = 5;

    // the FAULTS
    private static final int CANNOT_STAND = 1;
    private static final int NAME_TAKEN = 2;
    private static final int NAME_UNKNOWN = 3;
    private static final int NUMBER_OUTSIDE = 4;
    private static final int ONE_TOO_MANY = 5;
    private static final int TOO_FEW_OWNERS = 6;

    private final Tape tape;
    private final Told told;
    private final State now;
    private final Past past;
    private final BookReader bookReader;
    private final DayReader dayReader;
    private final Cover cover;
    private final Deeds deeds;
    private final Moves moves;
    private final Failing trial;
    private int deedsTold;

    public CoverDesk() {
        tape = new Tape();
        told = new Told();
        now = new State();
        past = new Past();
        bookReader = new BookReader(tape);
        dayReader = new DayReader(tape, told);
        cover = new Cover(told, now);
        deeds = new Deeds(told, now, cover);
        moves = new Moves(told, now, cover);
        trial = new Failing();
        now.open(told);
    }

    public int feed(int a, int b, int c, int d, int e) {
        if (tape.length > TAPE_BYTES - FED_BYTES) {
            return NONE;
        }
        tape.append(a);
        tape.append(b);
        tape.append(c);
        tape.append(d);
        tape.append(e);
        return tape.length;
    }

    public boolean end(int n) {
        if (n < 0 || n > tape.length) {
            return false;
        }
        tape.length = n;
        return true;
    }

    public int book() {
        boolean fine = bookReader.read();
        tape.length = 0;
        if (!fine) {
            return NONE;
        }
        told.copy(bookReader.draft);
        now.open(told);
        past.clear();
        return told.accounts;
    }

    public int day() {
        boolean fine = dayReader.read();
        tape.length = 0;
        if (!fine) {
            return NONE;
        }
        deedsTold = dayReader.count;
        past.keep(now);
        int done = 0;
        while (done < dayReader.count
                && deeds.act(dayReader.deed[done], dayReader.first[done], dayReader.second[done])) {
            done++;
        }
        past.confirm(done > 0);
        return done;
    }

    public int fault(int what) {
        switch (what) {
            case 0: return tape.fault;
            case 1: return tape.place;
            default: return NONE;
        }
    }

    public int named(int what) {
        tape.begin();
        boolean isName = tape.sort == NAME;
        long name = tape.name;
        tape.step();
        boolean alone = tape.sort == END;
        tape.length = 0;
        if (!isName || !alone) {
            return NONE;
        }
        switch (what) {
            case 0: return told.personNamed(name);
            case 1: return told.bankNamed(name);
            case 2: return told.accountNamed(name);
            default: return NONE;
        }
    }

    public boolean put(int account, int coins) {
        past.keep(now);
        return past.confirm(deeds.act(PUT, account, coins));
    }

    public boolean take(int account, int coins) {
        past.keep(now);
        return past.confirm(deeds.act(TAKE, account, coins));
    }

    public boolean merge(int bank, int into) {
        past.keep(now);
        return past.confirm(deeds.act(MERGE, bank, into));
    }

    public boolean months(int n) {
        past.keep(now);
        return past.confirm(deeds.act(MONTHS, n, 0));
    }

    public boolean pay(int loan, int coins) {
        past.keep(now);
        return past.confirm(deeds.act(PAY, loan, coins));
    }

    public boolean fail(int bank, int estate) {
        past.keep(now);
        return past.confirm(deeds.act(FAIL, bank, estate));
    }

    public boolean undo() {
        return past.restore(now);
    }

    public int account(int account, int what) {
        if (!told.isAccount(account)) {
            return NO_SUCH;
        }
        switch (what) {
            case 0: return told.kind[account];
            case 1: return told.home[account];
            case 2: return now.nowAt(told.home[account]);
            case 3: return cover.countedAt(account, now.month);
            case 4: return now.coins[account];
            case 5: return told.owners[account];
            case 6: return told.heirs[account];
            case 7: return told.term[account];
            case 8:
                cover.insure(now.month);
                return cover.insuredOfAccount(account);
            case 9: return cover.leaves(account, now.month);
            default: return NO_SUCH;
        }
    }

    public int owner(int account, int k, int what) {
        if (!told.isShare(account, k)) {
            return NONE;
        }
        switch (what) {
            case 0: return told.owner[account * MOST_OWNERS + k];
            case 1: return cover.share(account, k);
            case 2:
                cover.insure(now.month);
                return cover.insured[account * MOST_OWNERS + k];
            default: return NONE;
        }
    }

    public int bank(int bank, int what) {
        if (!told.isBank(bank)) {
            return NO_SUCH;
        }
        switch (what) {
            case 0: return now.into[bank];
            case 1: return now.since[bank];
            case 2: return now.failed[bank];
            case 3: return accountsNowAt(bank);
            case 4: return cover.accountsCountedAt(bank, now.month);
            default: return NO_SUCH;
        }
    }

    public long held(int bank, int what) {
        if (!told.isBank(bank)) {
            return NONE;
        }
        switch (what) {
            case 0: return coinsNowAt(bank);
            case 1: return insuredNowAt(bank);
            case 2: return loansNowAt(bank);
            default: return NONE;
        }
    }

    public long group(int person, int kind, int bank, int month, int what) {
        if (!told.isPerson(person) || kind < SINGLE || kind > FIRM || !told.isBank(bank) || !isMonth(month)) {
            return NONE;
        }
        cover.setMonth(month);
        cover.gather(person, kind, bank);
        long together = cover.group.sum;
        long most = cover.most(person, kind);
        switch (what) {
            case 0: return together;
            case 1: return most;
            case 2: return Math.min(together, most);
            case 3: return cover.group.count;
            default: return NONE;
        }
    }

    public long of(int person, int month, int what) {
        if (!told.isPerson(person) || !isMonth(month)) {
            return NONE;
        }
        cover.insure(month);
        switch (what) {
            case 0: return cover.sharesOf(person);
            case 1: return cover.insuredOf(person);
            case 2: return cover.openOf(person);
            default: return NONE;
        }
    }

    public int warns(int person) {
        if (!told.isPerson(person)) {
            return NONE;
        }
        cover.insure(now.month);
        long open = cover.openOf(person);
        int month = now.month;
        for (int i = 0; i <= MOST_MONTH; i++) {
            month = cover.nextChange(month);
            if (!isMonth(month)) {
                return NONE;
            }
            cover.insure(month);
            if (cover.openOf(person) > open) {
                return month;
            }
        }
        return NONE;
    }

    public long came(int account, int k, int what) {
        if (!told.isShare(account, k) || what < 0 || what > 3) {
            return NONE;
        }
        return now.failing.row(what)[account * MOST_OWNERS + k];
    }

    public long total(int what) {
        Failing failing = now.failing;
        if (failing.bank == NONE) {
            return NONE;
        }
        switch (what) {
            case 0: return failing.bank;
            case 1: return failing.all(0);
            case 2: return failing.all(1);
            case 3: return failing.all(2);
            case 4: return failing.dividedToLast;
            case 5: return failing.all(3);
            default: return NONE;
        }
    }

    public int loan(int loan, int what) {
        if (!told.isLoan(loan)) {
            return NONE;
        }
        switch (what) {
            case 0: return told.loanPerson[loan];
            case 1: return now.nowAt(told.loanBank[loan]);
            case 2: return now.owed[loan];
            default: return NONE;
        }
    }

    public long moves(int person, int what) {
        if (!told.isPerson(person)) {
            return NONE;
        }
        moves.weigh(person);
        long excess = moves.allOf(moves.excess);
        long room = moves.allOf(moves.room);
        switch (what) {
            case 0: return Math.max(0, excess - room);
            case 1: return Math.min(excess, room);
            case 2: return moves.roomiest();
            default: return NONE;
        }
    }

    public long move(int person, int i, int what) {
        if (!told.isPerson(person)) {
            return NONE;
        }
        moves.weigh(person);
        moves.find();
        if (i == NONE) {
            return moves.count;
        }
        if (i < 0 || i >= moves.count) {
            return NONE;
        }
        switch (what) {
            case 0: return moves.from[i];
            case 1: return moves.to[i];
            case 2: return moves.coins[i];
            default: return NONE;
        }
    }

    public int bestKind(int account) {
        if (!told.isAccount(account) || !isPlainKind(told.kind[account])) {
            return NONE;
        }
        int best = told.kind[account];
        long most = insuredAsKind(account, best);
        for (int kind = SINGLE; kind <= FIRM; kind++) {
            if (isPlainKind(kind)) {
                long insured = insuredAsKind(account, kind);
                if (insured > most) {
                    most = insured;
                    best = kind;
                }
            }
        }
        return best;
    }

    public int change(int i) {
        int month = now.month;
        for (int n = 0; n <= MOST_MONTH; n++) {
            month = cover.nextChange(month);
            if (!isMonth(month)) {
                return i == NONE ? n : NONE;
            }
            if (n == i) {
                return month;
            }
        }
        return NONE;
    }

    public int rank(int i) {
        cover.insure(now.month);
        for (int person = 0; person < told.people; person++) {
            if (rankOf(person) == i) {
                return person;
            }
        }
        return NONE;
    }

    public long asKind(int account, int kind) {
        if (!told.isAccount(account) || !isPlainKind(told.kind[account])
                || !isPlainKind(kind) || kind == told.kind[account]) {
            return Long.MIN_VALUE;
        }
        return insuredAsKind(account, kind) - insuredAsKind(account, told.kind[account]);
    }

    public long heirMore(int account) {
        if (!told.isAccount(account) || told.kind[account] != TRUST || told.heirs[account] >= MOST_HEIRS) {
            return NONE;
        }
        cover.insure(now.month);
        long before = cover.insuredOfAll();
        // 0 is the code of no NAME, so nobody has it
        told.addHeir(account, 0);
        cover.insure(now.month);
        told.heirs[account]--;
        return cover.insuredOfAll() - before;
    }

    public long worst(int what) {
        if (what != 0 && what != 1) {
            return NONE;
        }
        cover.insure(now.month);
        int worst = NONE;
        long most = NONE;
        for (int bank = 0; bank < told.banks; bank++) {
            if (now.isOpen(bank)) {
                deeds.windUp(trial, bank, 0);
                long lost = trial.all(3);
                if (lost > most) {
                    most = lost;
                    worst = bank;
                }
            }
        }
        return what == 0 ? worst : most;
    }

    public int look(int what) {
        switch (what) {
            case 0: return told.people;
            case 1: return told.banks;
            case 2: return told.accounts;
            case 3: return told.loans;
            case 4: return now.month;
            case 5: return told.limit;
            case 6: return told.grace;
            case 7: return past.count;
            case 8: return tape.length;
            case 9: return deedsTold;
            default: return NONE;
        }
    }

    private static boolean isMonth(int month) {
        return month >= 0 && month <= MOST_MONTH;
    }

    private static boolean isPlainKind(int kind) {
        return kind == SINGLE || kind == PLAN || kind == FIRM;
    }

    private int accountsNowAt(int bank) {
        int n = 0;
        for (int account = 0; account < told.accounts; account++) {
            if (now.nowAt(told.home[account]) == bank) {
                n++;
            }
        }
        return n;
    }

    private long coinsNowAt(int bank) {
        long sum = 0;
        for (int account = 0; account < told.accounts; account++) {
            if (now.nowAt(told.home[account]) == bank) {
                sum += now.coins[account];
            }
        }
        return sum;
    }

    private long insuredNowAt(int bank) {
        cover.insure(now.month);
        long sum = 0;
        for (int account = 0; account < told.accounts; account++) {
            if (now.nowAt(told.home[account]) == bank) {
                sum += cover.insuredOfAccount(account);
            }
        }
        return sum;
    }

    private long loansNowAt(int bank) {
        long sum = 0;
        for (int loan = 0; loan < told.loans; loan++) {
            if (now.nowAt(told.loanBank[loan]) == bank) {
                sum += now.owed[loan];
            }
        }
        return sum;
    }

    /** How much would be INSURED of all PEOPLE now if the ACCOUNT were of that KIND. */
    private long insuredAsKind(int account, int kind) {
        int was = told.kind[account];
        told.kind[account] = kind;
        cover.insure(now.month);
        told.kind[account] = was;
        return cover.insuredOfAll();
    }

    private int rankOf(int person) {
        long open = cover.openOf(person);
        int ahead = 0;
        for (int other = 0; other < told.people; other++) {
            long others = cover.openOf(other);
            if (others > open || others == open && other < person) {
                ahead++;
            }
        }
        return ahead;
    }

    /** THE TAPE, what stands at the place where it is being read, and the FAULT of the latest reading. */
    private static final class Tape {
        int length;
        int fault;
        int place = NONE;
        int sort;
        int word;
        int number;
        int lastNumber;
        // the letters as digits of base 27, so that a NAME is one number; 0 is none
        long name;
        private final byte[] bytes = new byte[TAPE_BYTES];
        private int start;
        private int next;

        void append(int fourBytes) {
            for (int shift = 24; shift >= 0 && length < bytes.length; shift -= 8) {
                bytes[length] = (byte) (fourBytes >> shift);
                length++;
            }
        }

        void forgetFault() {
            fault = 0;
            place = NONE;
        }

        void begin() {
            next = 0;
            step();
        }

        /** Goes on to what stands behind. */
        void step() {
            while (next < length && isBlank(bytes[next])) {
                next++;
            }
            start = next;
            word = NONE;
            name = 0;
            number = 0;
            if (next >= length) {
                sort = END;
            } else if (isLetter(bytes[next])) {
                scanWord();
                word = reserved();
                if (sort == NAME && word != NONE) {
                    sort = RESERVED;
                }
            } else if (isDigit(bytes[next])) {
                scanNumber();
            } else {
                sort = bytes[next] == ';' ? SEMICOLON : WRONG;
                next++;
            }
        }

        private void scanWord() {
            while (next < length && isLetter(bytes[next])) {
                if (next - start < NAME_LETTERS) {
                    name = name * 27 + (bytes[next] - 'a' + 1);
                }
                next++;
            }
            sort = next - start > NAME_LETTERS ? WRONG : NAME;
        }

        private void scanNumber() {
            while (next < length && isDigit(bytes[next])) {
                if (next - start < NUMBER_DIGITS) {
                    number = number * 10 + (bytes[next] - '0');
                }
                next++;
            }
            sort = next - start > NUMBER_DIGITS ? WRONG : NUMBER;
        }

        /** Which of WORDS stands from start to next. */
        private int reserved() {
            int found = 0;
            int at = start;
            boolean alike = true;
            for (int i = 0; i < WORDS.length(); i++) {
                char sign = WORDS.charAt(i);
                if (sign == ' ') {
                    if (alike && at == next) {
                        return found;
                    }
                    found++;
                    at = start;
                    alike = true;
                } else if (alike && at < next && bytes[at] == sign) {
                    at++;
                } else {
                    alike = false;
                }
            }
            return NONE;
        }

        private static boolean isBlank(byte b) {
            return b == 32 || b == 10;
        }

        private static boolean isLetter(byte b) {
            return b >= 'a' && b <= 'z';
        }

        private static boolean isDigit(byte b) {
            return b >= '0' && b <= '9';
        }

        boolean refuse(int newFault) {
            fault = newFault;
            place = start;
            return false;
        }

        boolean passWord(int wanted) {
            if (word != wanted) {
                return refuse(CANNOT_STAND);
            }
            step();
            return true;
        }

        boolean passSemicolon() {
            if (sort != SEMICOLON) {
                return refuse(CANNOT_STAND);
            }
            step();
            return true;
        }

        boolean passNumber(int least, int most) {
            if (sort != NUMBER) {
                return refuse(CANNOT_STAND);
            }
            if (number < least || number > most) {
                return refuse(NUMBER_OUTSIDE);
            }
            lastNumber = number;
            step();
            return true;
        }

        /** Passes a NAME that must be told ahead: found is whose it is. */
        boolean passKnown(int found) {
            if (sort != NAME) {
                return refuse(CANNOT_STAND);
            }
            if (found == NONE) {
                return refuse(NAME_UNKNOWN);
            }
            step();
            return true;
        }

        /** Passes a NAME that must be new, and for which there must be a place left. */
        boolean passNew(boolean taken, boolean full) {
            if (sort != NAME) {
                return refuse(CANNOT_STAND);
            }
            if (taken) {
                return refuse(NAME_TAKEN);
            }
            if (full) {
                return refuse(ONE_TOO_MANY);
            }
            step();
            return true;
        }
    }

    /** What a BOOK tells. */
    private static final class Told {
        int people;
        int banks;
        int accounts;
        int loans;
        int limit = FIRST_LIMIT;
        int grace = FIRST_GRACE;
        final long[] personName = new long[MOST_PEOPLE];
        final long[] bankName = new long[MOST_BANKS];
        final long[] accountName = new long[MOST_ACCOUNTS];
        final int[] kind = new int[MOST_ACCOUNTS];
        final int[] home = new int[MOST_ACCOUNTS];
        final int[] coins = new int[MOST_ACCOUNTS];
        final int[] term = new int[MOST_ACCOUNTS];
        final int[] owners = new int[MOST_ACCOUNTS];
        final int[] heirs = new int[MOST_ACCOUNTS];
        final int[] owner = new int[MOST_SHARES];
        final long[] heir = new long[MOST_ACCOUNTS * MOST_HEIRS];
        final int[] loanPerson = new int[MOST_LOANS];
        final int[] loanBank = new int[MOST_LOANS];
        final int[] loanCoins = new int[MOST_LOANS];

        void clear() {
            people = 0;
            banks = 0;
            accounts = 0;
            loans = 0;
            limit = FIRST_LIMIT;
            grace = FIRST_GRACE;
        }

        void copy(Told other) {
            people = other.people;
            banks = other.banks;
            accounts = other.accounts;
            loans = other.loans;
            limit = other.limit;
            grace = other.grace;
            System.arraycopy(other.personName, 0, personName, 0, MOST_PEOPLE);
            System.arraycopy(other.bankName, 0, bankName, 0, MOST_BANKS);
            System.arraycopy(other.accountName, 0, accountName, 0, MOST_ACCOUNTS);
            System.arraycopy(other.kind, 0, kind, 0, MOST_ACCOUNTS);
            System.arraycopy(other.home, 0, home, 0, MOST_ACCOUNTS);
            System.arraycopy(other.coins, 0, coins, 0, MOST_ACCOUNTS);
            System.arraycopy(other.term, 0, term, 0, MOST_ACCOUNTS);
            System.arraycopy(other.owners, 0, owners, 0, MOST_ACCOUNTS);
            System.arraycopy(other.heirs, 0, heirs, 0, MOST_ACCOUNTS);
            System.arraycopy(other.owner, 0, owner, 0, MOST_SHARES);
            System.arraycopy(other.heir, 0, heir, 0, MOST_ACCOUNTS * MOST_HEIRS);
            System.arraycopy(other.loanPerson, 0, loanPerson, 0, MOST_LOANS);
            System.arraycopy(other.loanBank, 0, loanBank, 0, MOST_LOANS);
            System.arraycopy(other.loanCoins, 0, loanCoins, 0, MOST_LOANS);
        }

        boolean isPerson(int n) {
            return n >= 0 && n < people;
        }

        boolean isBank(int n) {
            return n >= 0 && n < banks;
        }

        boolean isAccount(int n) {
            return n >= 0 && n < accounts;
        }

        boolean isLoan(int n) {
            return n >= 0 && n < loans;
        }

        boolean isShare(int account, int k) {
            return isAccount(account) && k >= 0 && k < owners[account];
        }

        int personNamed(long name) {
            return placeOf(name, personName, people);
        }

        int bankNamed(long name) {
            return placeOf(name, bankName, banks);
        }

        int accountNamed(long name) {
            return placeOf(name, accountName, accounts);
        }

        boolean isTaken(long name) {
            return personNamed(name) != NONE || bankNamed(name) != NONE || accountNamed(name) != NONE;
        }

        private static int placeOf(long name, long[] names, int count) {
            for (int i = 0; i < count && i < names.length; i++) {
                if (names[i] == name) {
                    return i;
                }
            }
            return NONE;
        }

        /** Which OWNER of the ACCOUNT the PERSON is. */
        int ownerOf(int account, int person) {
            int first = account * MOST_OWNERS;
            for (int k = 0; k < owners[account]; k++) {
                if (owner[first + k] == person) {
                    return k;
                }
            }
            return NONE;
        }

        boolean hasHeir(int account, long name) {
            int first = account * MOST_HEIRS;
            for (int k = 0; k < heirs[account]; k++) {
                if (heir[first + k] == name) {
                    return true;
                }
            }
            return false;
        }

        void addOwner(int account, int person) {
            int k = owners[account];
            if (k < MOST_OWNERS) {
                owner[account * MOST_OWNERS + k] = person;
                owners[account] = k + 1;
            }
        }

        void addHeir(int account, long name) {
            int k = heirs[account];
            if (k < MOST_HEIRS) {
                heir[account * MOST_HEIRS + k] = name;
                heirs[account] = k + 1;
            }
        }
    }

    /** Reads THE TAPE as a BOOK into a draft, so that a FAULT leaves what was told before. */
    private static final class BookReader {
        final Told draft = new Told();
        private final Tape tape;

        BookReader(Tape tape) {
            this.tape = tape;
        }

        boolean read() {
            draft.clear();
            tape.forgetFault();
            tape.begin();
            boolean fine = true;
            for (int i = 0; i < TAPE_BYTES && fine && tape.sort != END; i++) {
                switch (tape.word) {
                    case SINGLE:
                    case JOINT:
                    case TRUST:
                    case PLAN:
                    case FIRM:
                        fine = readAccount(tape.word);
                        break;
                    case PERSON:
                        fine = readPerson();
                        break;
                    case BANK:
                        fine = readBank();
                        break;
                    case LIMIT:
                        fine = readLimit();
                        break;
                    case GRACE:
                        fine = readGrace();
                        break;
                    case LOAN:
                        fine = readLoan();
                        break;
                    default:
                        fine = tape.refuse(CANNOT_STAND);
                }
                fine = fine && tape.passSemicolon();
            }
            return fine;
        }

        private boolean readPerson() {
            tape.step();
            int person = draft.people;
            long name = tape.name;
            if (!tape.passNew(draft.isTaken(name), person >= MOST_PEOPLE)) {
                return false;
            }
            draft.personName[person] = name;
            draft.people = person + 1;
            return true;
        }

        private boolean readBank() {
            tape.step();
            int bank = draft.banks;
            long name = tape.name;
            if (!tape.passNew(draft.isTaken(name), bank >= MOST_BANKS)) {
                return false;
            }
            draft.bankName[bank] = name;
            draft.banks = bank + 1;
            return true;
        }

        private boolean readLimit() {
            tape.step();
            if (!tape.passNumber(1, MOST_COINS)) {
                return false;
            }
            draft.limit = tape.lastNumber;
            return true;
        }

        private boolean readGrace() {
            tape.step();
            if (!tape.passNumber(0, MOST_GRACE)) {
                return false;
            }
            draft.grace = tape.lastNumber;
            return true;
        }

        private boolean readLoan() {
            int loan = draft.loans;
            if (loan >= MOST_LOANS) {
                return tape.refuse(ONE_TOO_MANY);
            }
            tape.step();
            int person = draft.personNamed(tape.name);
            if (!tape.passKnown(person) || !tape.passWord(AT)) {
                return false;
            }
            int bank = draft.bankNamed(tape.name);
            if (!tape.passKnown(bank) || !tape.passNumber(0, MOST_COINS)) {
                return false;
            }
            draft.loanPerson[loan] = person;
            draft.loanBank[loan] = bank;
            draft.loanCoins[loan] = tape.lastNumber;
            draft.loans = loan + 1;
            return true;
        }

        private boolean readAccount(int kind) {
            tape.step();
            int account = draft.accounts;
            long name = tape.name;
            if (!tape.passNew(draft.isTaken(name), account >= MOST_ACCOUNTS) || !tape.passWord(AT)) {
                return false;
            }
            int bank = draft.bankNamed(tape.name);
            if (!tape.passKnown(bank) || !tape.passWord(OF) || !readOwners(account, kind)) {
                return false;
            }
            draft.heirs[account] = 0;
            if (kind == TRUST && !(tape.passWord(FOR) && readHeirs(account))) {
                return false;
            }
            if (!readCoins(account, kind) || !readTerm(account)) {
                return false;
            }
            draft.accountName[account] = name;
            draft.kind[account] = kind;
            draft.home[account] = bank;
            draft.accounts = account + 1;
            return true;
        }

        private boolean readOwners(int account, int kind) {
            int most = kind == JOINT ? MOST_OWNERS : kind == TRUST ? 2 : 1;
            draft.owners[account] = 0;
            // the last turn is for the one that is too many
            for (int n = 0; n <= most && (n == 0 || tape.sort == NAME); n++) {
                int person = draft.personNamed(tape.name);
                boolean again = draft.ownerOf(account, person) != NONE;
                if (n == most && person != NONE && !again) {
                    return tape.refuse(ONE_TOO_MANY);
                }
                if (!tape.passKnown(again ? NONE : person)) {
                    return false;
                }
                draft.addOwner(account, person);
            }
            return true;
        }

        private boolean readHeirs(int account) {
            for (int n = 0; n <= MOST_HEIRS && (n == 0 || tape.sort == NAME); n++) {
                long name = tape.name;
                if (tape.sort != NAME) {
                    return tape.refuse(CANNOT_STAND);
                }
                if (draft.hasHeir(account, name)) {
                    return tape.refuse(NAME_UNKNOWN);
                }
                if (n == MOST_HEIRS) {
                    return tape.refuse(ONE_TOO_MANY);
                }
                draft.addHeir(account, name);
                tape.step();
            }
            return true;
        }

        private boolean readCoins(int account, int kind) {
            boolean tooFew = kind == JOINT && draft.owners[account] < 2;
            // of one place the least FAULT counts: what passNumber refuses goes ahead of too few OWNERS
            if (tooFew && tape.sort == NUMBER && tape.number <= MOST_COINS) {
                return tape.refuse(TOO_FEW_OWNERS);
            }
            if (!tape.passNumber(0, MOST_COINS)) {
                return false;
            }
            draft.coins[account] = tape.lastNumber;
            return true;
        }

        private boolean readTerm(int account) {
            draft.term[account] = 0;
            if (tape.word != TERM) {
                return true;
            }
            tape.step();
            if (!tape.passNumber(1, MOST_TERM)) {
                return false;
            }
            draft.term[account] = tape.lastNumber;
            return true;
        }
    }

    /** Reads THE TAPE as a DAY, all of it ahead of the first DEED. */
    private static final class DayReader {
        int count;
        final int[] deed = new int[MOST_DEEDS];
        final int[] first = new int[MOST_DEEDS];
        final int[] second = new int[MOST_DEEDS];
        private final Tape tape;
        private final Told told;
        private int one;
        private int other;

        DayReader(Tape tape, Told told) {
            this.tape = tape;
            this.told = told;
        }

        boolean read() {
            tape.forgetFault();
            tape.begin();
            count = 0;
            while (count < MOST_DEEDS && tape.sort != END) {
                int word = tape.word;
                if (!readDeed(word) || !tape.passSemicolon()) {
                    return false;
                }
                deed[count] = word;
                first[count] = one;
                second[count] = other;
                count++;
            }
            return tape.sort == END || tape.refuse(CANNOT_STAND);
        }

        private boolean readDeed(int word) {
            switch (word) {
                case PUT:
                case TAKE:
                    return readCoinsOfAccount();
                case MERGE: return readMerger();
                case MONTHS: return readMonths();
                case PAY: return readPayment();
                case FAIL: return readFailing();
                default: return tape.refuse(CANNOT_STAND);
            }
        }

        private boolean readCoinsOfAccount() {
            tape.step();
            if (!tape.passNumber(0, MOST_COINS)) {
                return false;
            }
            other = tape.lastNumber;
            one = told.accountNamed(tape.name);
            return tape.passKnown(one);
        }

        private boolean readMerger() {
            tape.step();
            one = told.bankNamed(tape.name);
            if (!tape.passKnown(one) || !tape.passWord(INTO)) {
                return false;
            }
            other = told.bankNamed(tape.name);
            return tape.passKnown(other);
        }

        private boolean readMonths() {
            tape.step();
            if (!tape.passNumber(0, MOST_COINS)) {
                return false;
            }
            one = tape.lastNumber;
            other = 0;
            return true;
        }

        private boolean readPayment() {
            tape.step();
            if (!tape.passNumber(0, MOST_COINS)) {
                return false;
            }
            one = tape.lastNumber;
            if (!tape.passNumber(0, MOST_COINS)) {
                return false;
            }
            other = tape.lastNumber;
            return true;
        }

        private boolean readFailing() {
            tape.step();
            one = told.bankNamed(tape.name);
            if (!tape.passKnown(one) || !tape.passNumber(0, MOST_COINS)) {
                return false;
            }
            other = tape.lastNumber;
            return true;
        }
    }

    /** What the DEEDS change. */
    private static final class State {
        int month;
        final int[] coins = new int[MOST_ACCOUNTS];
        final int[] owed = new int[MOST_LOANS];
        final int[] into = new int[MOST_BANKS];
        final int[] since = new int[MOST_BANKS];
        final int[] failed = new int[MOST_BANKS];
        final Failing failing = new Failing();

        void open(Told told) {
            month = 0;
            System.arraycopy(told.coins, 0, coins, 0, MOST_ACCOUNTS);
            System.arraycopy(told.loanCoins, 0, owed, 0, MOST_LOANS);
            Arrays.fill(into, NONE);
            Arrays.fill(since, NONE);
            Arrays.fill(failed, 0);
            failing.clear(NONE);
        }

        void copy(State other) {
            month = other.month;
            System.arraycopy(other.coins, 0, coins, 0, MOST_ACCOUNTS);
            System.arraycopy(other.owed, 0, owed, 0, MOST_LOANS);
            System.arraycopy(other.into, 0, into, 0, MOST_BANKS);
            System.arraycopy(other.since, 0, since, 0, MOST_BANKS);
            System.arraycopy(other.failed, 0, failed, 0, MOST_BANKS);
            failing.copy(other.failing);
        }

        boolean isMerged(int bank) {
            return bank >= 0 && bank < MOST_BANKS && into[bank] != NONE;
        }

        /** Whether the BANK is neither MERGED nor FAILED. */
        boolean isOpen(int bank) {
            return bank >= 0 && bank < MOST_BANKS && into[bank] == NONE && failed[bank] == 0;
        }

        int nowAt(int home) {
            int bank = home;
            for (int i = 0; i < MOST_BANKS && isMerged(bank); i++) {
                bank = into[bank];
            }
            return bank;
        }
    }

    /** What a failing brought, of each OWNER of each ACCOUNT; NONE where the ACCOUNT was elsewhere. */
    private static final class Failing {
        int bank = NONE;
        long dividedToLast;
        final int[] setOff = new int[MOST_SHARES];
        final int[] paid = new int[MOST_SHARES];
        final int[] divided = new int[MOST_SHARES];
        final int[] lost = new int[MOST_SHARES];
        final int[] owed = new int[MOST_LOANS];

        Failing() {
            clear(NONE);
        }

        void clear(int newBank) {
            bank = newBank;
            dividedToLast = 0;
            Arrays.fill(setOff, NONE);
            Arrays.fill(paid, NONE);
            Arrays.fill(divided, NONE);
            Arrays.fill(lost, NONE);
        }

        void copy(Failing other) {
            bank = other.bank;
            dividedToLast = other.dividedToLast;
            System.arraycopy(other.setOff, 0, setOff, 0, MOST_SHARES);
            System.arraycopy(other.paid, 0, paid, 0, MOST_SHARES);
            System.arraycopy(other.divided, 0, divided, 0, MOST_SHARES);
            System.arraycopy(other.lost, 0, lost, 0, MOST_SHARES);
            System.arraycopy(other.owed, 0, owed, 0, MOST_LOANS);
        }

        int[] row(int what) {
            switch (what) {
                case 0: return setOff;
                case 1: return paid;
                case 2: return divided;
                default: return lost;
            }
        }

        long all(int what) {
            int[] coins = row(what);
            long sum = 0;
            for (int i = 0; i < coins.length; i++) {
                if (coins[i] != NONE) {
                    sum += coins[i];
                }
            }
            return sum;
        }
    }

    /** The STATES to which can be gone back, in a ring: the one at next is kept, but not yet counted. */
    private static final class Past {
        int count;
        private int next;
        private final State[] kept = new State[MOST_UNDONE + 1];

        Past() {
            for (int i = 0; i < kept.length; i++) {
                kept[i] = new State();
            }
        }

        void clear() {
            count = 0;
        }

        void keep(State state) {
            kept[next].copy(state);
        }

        /** Counts what was kept if something was done; answers whether it was. */
        boolean confirm(boolean done) {
            if (done) {
                next = (next + 1) % (MOST_UNDONE + 1);
                count = Math.min(count + 1, MOST_UNDONE);
            }
            return done;
        }

        boolean restore(State state) {
            if (count == 0) {
                return false;
            }
            next = (next + MOST_UNDONE) % (MOST_UNDONE + 1);
            count--;
            state.copy(kept[next]);
            return true;
        }
    }

    /** Coins divided among parts, each its part, cut, what is left to the greatest rests. */
    private static final class Division {
        int count;
        long sum;
        // all SHARES and the insurer's CLAIM
        final long[] part = new long[MOST_SHARES + 1];
        final long[] got = new long[MOST_SHARES + 1];
        private final long[] rest = new long[MOST_SHARES + 1];

        void clear() {
            count = 0;
            sum = 0;
        }

        void add(long coins) {
            if (count < part.length) {
                part[count] = coins;
                count++;
                sum += coins;
            }
        }

        void divide(long coins) {
            if (coins >= sum || sum < 1) {
                System.arraycopy(part, 0, got, 0, count);
                return;
            }
            long left = coins;
            for (int i = 0; i < count; i++) {
                long product = coins * part[i];
                got[i] = product / sum;
                rest[i] = product % sum;
                left -= got[i];
            }
            for (int i = 0; i < count && left > 0; i++) {
                int greatest = greatestRest();
                got[greatest]++;
                rest[greatest] = NONE;
                left--;
            }
        }

        private int greatestRest() {
            int greatest = 0;
            for (int i = 1; i < count; i++) {
                if (rest[i] > rest[greatest]) {
                    greatest = i;
                }
            }
            return greatest;
        }
    }

    /** What is INSURED in a MONTH. */
    private static final class Cover {
        // of each OWNER of each ACCOUNT in the MONTH of the latest insure()
        final int[] insured = new int[MOST_SHARES];
        final Division group = new Division();
        private final Told told;
        private final State now;
        private final int[] counted = new int[MOST_ACCOUNTS];
        private final int[] member = new int[MOST_ACCOUNTS];
        private final long[] heirs = new long[MOST_HEIRS_INSURED];

        Cover(Told told, State now) {
            this.told = told;
            this.now = now;
        }

        int share(int account, int k) {
            int owners = told.owners[account];
            if (owners < 1) {
                return 0;
            }
            int coins = now.coins[account];
            return coins / owners + (k < coins % owners ? 1 : 0);
        }

        /** The first MONTH in which the ACCOUNT counts at the BANK into which the one given is MERGED. */
        private int endOf(int account, int bank) {
            int end = now.since[bank] + told.grace;
            int term = told.term[account];
            if (term < 1) {
                return end;
            }
            return Math.max(1, (end + term - 1) / term) * term;
        }

        int countedAt(int account, int month) {
            int bank = told.home[account];
            for (int i = 0; i < MOST_BANKS && now.isMerged(bank) && month >= endOf(account, bank); i++) {
                bank = now.into[bank];
            }
            return bank;
        }

        /** The MONTH behind the given one from which on the ACCOUNT counts at another BANK. */
        int leaves(int account, int month) {
            int bank = countedAt(account, month);
            return now.isMerged(bank) ? endOf(account, bank) : NONE;
        }

        /** The first MONTH behind the given one in which an ACCOUNT comes to count at another BANK. */
        int nextChange(int month) {
            int next = NONE;
            for (int account = 0; account < told.accounts; account++) {
                int leaving = leaves(account, month);
                if (leaving != NONE && (next == NONE || leaving < next)) {
                    next = leaving;
                }
            }
            return next;
        }

        int accountsCountedAt(int bank, int month) {
            int n = 0;
            for (int account = 0; account < told.accounts; account++) {
                if (countedAt(account, month) == bank) {
                    n++;
                }
            }
            return n;
        }

        void setMonth(int month) {
            for (int account = 0; account < told.accounts; account++) {
                counted[account] = countedAt(account, month);
            }
        }

        /** Puts the SHARES of a GROUP, in the MONTH set, into group and member. */
        void gather(int person, int kind, int bank) {
            group.clear();
            for (int account = 0; account < told.accounts; account++) {
                if (told.kind[account] == kind && counted[account] == bank) {
                    int k = told.ownerOf(account, person);
                    if (k != NONE) {
                        member[group.count] = account * MOST_OWNERS + k;
                        group.add(share(account, k));
                    }
                }
            }
        }

        /** The MOST of the GROUP gathered last. */
        long most(int person, int kind) {
            if (group.count == 0) {
                return 0;
            }
            return kind == TRUST ? (long) told.limit * Math.max(1, unlikeHeirs(person)) : told.limit;
        }

        private int unlikeHeirs(int person) {
            long own = told.isPerson(person) ? told.personName[person] : 0;
            int n = 0;
            for (int i = 0; i < group.count; i++) {
                int account = member[i] / MOST_OWNERS;
                for (int h = 0; h < told.heirs[account] && n < MOST_HEIRS_INSURED; h++) {
                    long heir = told.heir[account * MOST_HEIRS + h];
                    if (heir != own && !isAmongHeirs(heir, n)) {
                        heirs[n] = heir;
                        n++;
                    }
                }
            }
            return n;
        }

        private boolean isAmongHeirs(long heir, int n) {
            for (int i = 0; i < n; i++) {
                if (heirs[i] == heir) {
                    return true;
                }
            }
            return false;
        }

        void insure(int month) {
            setMonth(month);
            Arrays.fill(insured, NONE);
            for (int account = 0; account < told.accounts; account++) {
                for (int k = 0; k < told.owners[account]; k++) {
                    if (insured[account * MOST_OWNERS + k] == NONE) {
                        insureGroup(told.owner[account * MOST_OWNERS + k], told.kind[account], counted[account]);
                    }
                }
            }
        }

        private void insureGroup(int person, int kind, int bank) {
            gather(person, kind, bank);
            group.divide(most(person, kind));
            for (int i = 0; i < group.count; i++) {
                insured[member[i]] = (int) group.got[i];
            }
        }

        int insuredOfAccount(int account) {
            int sum = 0;
            for (int k = 0; k < told.owners[account]; k++) {
                sum += insured[account * MOST_OWNERS + k];
            }
            return sum;
        }

        long insuredOfAll() {
            long sum = 0;
            for (int account = 0; account < told.accounts; account++) {
                sum += insuredOfAccount(account);
            }
            return sum;
        }

        long sharesOf(int person) {
            long sum = 0;
            for (int account = 0; account < told.accounts; account++) {
                int k = told.ownerOf(account, person);
                if (k != NONE) {
                    sum += share(account, k);
                }
            }
            return sum;
        }

        long insuredOf(int person) {
            long sum = 0;
            for (int account = 0; account < told.accounts; account++) {
                int k = told.ownerOf(account, person);
                if (k != NONE) {
                    sum += insured[account * MOST_OWNERS + k];
                }
            }
            return sum;
        }

        /** What is not INSURED of a PERSON. */
        long openOf(int person) {
            return sharesOf(person) - insuredOf(person);
        }
    }

    /** Does the DEEDS; one that is REFUSED changes nothing. */
    private static final class Deeds {
        private final Told told;
        private final State now;
        private final Cover cover;
        private final Division claims = new Division();

        Deeds(Told told, State now, Cover cover) {
            this.told = told;
            this.now = now;
            this.cover = cover;
        }

        boolean act(int deed, int one, int other) {
            switch (deed) {
                case PUT: return putCoins(one, other);
                case TAKE: return takeCoins(one, other);
                case MERGE: return mergeBanks(one, other);
                case MONTHS: return passMonths(one);
                case PAY: return payLoan(one, other);
                case FAIL: return failBank(one, other);
                default: return false;
            }
        }

        private static boolean isAmount(int coins) {
            return coins > 0 && coins <= MOST_COINS;
        }

        private boolean putCoins(int account, int coins) {
            if (!told.isAccount(account) || !isAmount(coins) || now.coins[account] > MOST_COINS - coins
                    || !now.isOpen(now.nowAt(told.home[account]))) {
                return false;
            }
            now.coins[account] += coins;
            return true;
        }

        private boolean takeCoins(int account, int coins) {
            if (!told.isAccount(account) || !isAmount(coins) || coins > now.coins[account]) {
                return false;
            }
            now.coins[account] -= coins;
            return true;
        }

        private boolean mergeBanks(int bank, int into) {
            if (!told.isBank(bank) || !told.isBank(into) || bank == into || !now.isOpen(bank) || !now.isOpen(into)) {
                return false;
            }
            now.into[bank] = into;
            now.since[bank] = now.month;
            return true;
        }

        private boolean passMonths(int n) {
            if (n < 1 || n > MOST_MONTHS || now.month > MOST_MONTH - n) {
                return false;
            }
            now.month += n;
            return true;
        }

        private boolean payLoan(int loan, int coins) {
            if (!told.isLoan(loan) || !isAmount(coins) || coins > now.owed[loan]) {
                return false;
            }
            now.owed[loan] -= coins;
            return true;
        }

        private boolean failBank(int bank, int estate) {
            if (!told.isBank(bank) || !now.isOpen(bank) || estate < 0 || estate > MOST_COINS) {
                return false;
            }
            cover.insure(now.month);
            windUp(now.failing, bank, estate);
            System.arraycopy(now.failing.owed, 0, now.owed, 0, MOST_LOANS);
            for (int account = 0; account < told.accounts; account++) {
                if (now.nowAt(told.home[account]) == bank) {
                    now.coins[account] = 0;
                }
            }
            now.failed[bank] = 1;
            return true;
        }

        /** What the failing of a BANK would bring, by what cover has INSURED last. */
        void windUp(Failing failing, int bank, int estate) {
            failing.clear(bank);
            split(failing);
            for (int loan = 0; loan < told.loans; loan++) {
                int owed = now.owed[loan];
                if (now.nowAt(told.loanBank[loan]) == bank) {
                    owed = setOff(failing, failing.lost, told.loanPerson[loan], owed);
                    owed = setOff(failing, failing.paid, told.loanPerson[loan], owed);
                }
                failing.owed[loan] = owed;
            }
            divide(failing, estate);
        }

        /** Splits the SHARES there in what is INSURED (PAID, as long as nothing is SET OFF) and what isn't. */
        private void split(Failing failing) {
            for (int account = 0; account < told.accounts; account++) {
                if (now.nowAt(told.home[account]) == failing.bank) {
                    for (int k = 0; k < told.owners[account]; k++) {
                        int slot = account * MOST_OWNERS + k;
                        failing.setOff[slot] = 0;
                        failing.paid[slot] = cover.insured[slot];
                        failing.divided[slot] = 0;
                        failing.lost[slot] = cover.share(account, k) - cover.insured[slot];
                    }
                }
            }
        }

        /** Sets a LOAN off against what the PERSON has in a row; answers what is left of it. */
        private int setOff(Failing failing, int[] row, int person, int owed) {
            int left = owed;
            for (int account = 0; account < told.accounts; account++) {
                int k = told.ownerOf(account, person);
                int slot = account * MOST_OWNERS + k;
                if (k != NONE && failing.setOff[slot] != NONE) {
                    int coins = Math.min(left, row[slot]);
                    row[slot] -= coins;
                    failing.setOff[slot] += coins;
                    left -= coins;
                }
            }
            return left;
        }

        private void divide(Failing failing, int estate) {
            claims.clear();
            for (int slot = 0; slot < MOST_SHARES; slot++) {
                if (failing.lost[slot] != NONE) {
                    claims.add(failing.lost[slot]);
                }
            }
            claims.add(failing.all(1));
            claims.divide(estate);
            int claim = 0;
            for (int slot = 0; slot < MOST_SHARES; slot++) {
                if (failing.lost[slot] != NONE) {
                    failing.divided[slot] = (int) claims.got[claim];
                    failing.lost[slot] -= failing.divided[slot];
                    claim++;
                }
            }
            failing.dividedToLast = claims.got[claim];
        }
    }

    /** What of a PERSON's single GROUPS had best be moved to where. */
    private static final class Moves {
        int count;
        final long[] excess = new long[MOST_BANKS];
        final long[] room = new long[MOST_BANKS];
        final int[] from = new int[MOST_MOVES];
        final int[] to = new int[MOST_MOVES];
        final long[] coins = new long[MOST_MOVES];
        private final Told told;
        private final State now;
        private final Cover cover;

        Moves(Told told, State now, Cover cover) {
            this.told = told;
            this.now = now;
            this.cover = cover;
        }

        /** Finds EXCESS and ROOM at each BANK. */
        void weigh(int person) {
            cover.setMonth(now.month);
            for (int bank = 0; bank < told.banks; bank++) {
                cover.gather(person, SINGLE, bank);
                long together = cover.group.sum;
                excess[bank] = Math.max(0, together - told.limit);
                room[bank] = now.isOpen(bank) ? Math.max(0, told.limit - together) : 0;
            }
        }

        long allOf(long[] row) {
            long sum = 0;
            for (int bank = 0; bank < told.banks; bank++) {
                sum += row[bank];
            }
            return sum;
        }

        int roomiest() {
            int found = NONE;
            long most = 0;
            for (int bank = 0; bank < told.banks; bank++) {
                if (room[bank] > most) {
                    most = room[bank];
                    found = bank;
                }
            }
            return found;
        }

        /** Finds the MOVES, and uses up what weigh() found. */
        void find() {
            count = 0;
            for (int source = 0; source < told.banks; source++) {
                for (int goal = 0; goal < told.banks && count < MOST_MOVES; goal++) {
                    long moved = Math.min(excess[source], room[goal]);
                    if (moved > 0) {
                        from[count] = source;
                        to[count] = goal;
                        coins[count] = moved;
                        count++;
                        excess[source] -= moved;
                        room[goal] -= moved;
                    }
                }
            }
        }
    }
}
