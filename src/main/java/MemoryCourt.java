import java.util.Arrays;
import java.util.NoSuchElementException;

/**
 * A court for memory: processes ask for pages and promise when they give them back; who breaks a
 * promise is fined, and pages are taken back from broken promises alone.
 *
 * All that changes is in one Court. Changes are undone, forecast and saved by copying one court
 * over another, and a court that was made is used again, so that a long run of calls needs little
 * more room than a short one.
 */
public final class MemoryCourt {
    public static final int NONE = -1;
    public static final int FIRST = 0, SMALL = 1, CLEAN = 2;
    public static final int WAITS = 0, MET = 1, REFUSED = 2, WITHDRAWN = 3;

    private static final int MOST_INPUT = 600;
    private static final int MOST_OUTPUT = 1024;
    private static final int MOST_PAGES = 64;
    private static final int MOST_PROCESSES = 8;
    private static final int MOST_LETTERS = 6;
    private static final int MOST_TOLD_LOANS = 20;
    private static final int MOST_CLAIMS = 60;
    private static final int MOST_LOANS = MOST_TOLD_LOANS + MOST_CLAIMS;
    private static final int MOST_TIME = 2000;
    private static final int MOST_TICKS = 500;
    private static final int MOST_TERM = 99;
    private static final int MOST_STALL = 99;
    private static final int MOST_FINE = 200;
    private static final int MOST_RECORD = 999;
    private static final int MOST_BAR = 999;
    private static final int KNOWN_FINES = 40;
    private static final int KEPT_CHANGES = 8;

    private final Bytes input = new Bytes(MOST_INPUT);
    private final Bytes output = new Bytes(MOST_OUTPUT);
    private final Rules rules = new Rules();
    private final Court now = new Court();
    private final Court forecast = new Court();
    // A text is read into the court of the forecasts, as none goes on while it is read.
    private final Reader reader = new Reader(input, forecast);
    private final Past past = new Past();
    private Court saved = null;
    private boolean isSaved = false;

    public MemoryCourt() {
        rules.begin(Word.PAGES.usual);
        now.begin(Word.PAGES.usual);
    }

    // ---- setup

    public int feed(int a, int b, int c, int d, int e) {
        if (input.length + 20 > MOST_INPUT) {
            return NONE;
        }
        input.putWord(a);
        input.putWord(b);
        input.putWord(c);
        input.putWord(d);
        input.putWord(e);
        return input.length;
    }

    public boolean truncate(int length) {
        if (length < 0 || length > input.length) {
            return false;
        }
        input.length = length;
        return true;
    }

    public int parse() {
        boolean good = reader.readText();
        input.length = 0;
        if (!good) {
            return NONE;
        }
        rules.copyFrom(reader.rules);
        now.copyFrom(forecast);
        past.forget();
        isSaved = false;
        return rules.processes;
    }

    public int errorCode() {
        return reader.code;
    }

    public int errorOffset() {
        return reader.offset;
    }

    // ---- what there is

    public int count(int what) {
        switch (what) {
            case 0: return rules.pages;
            case 1: return rules.processes;
            case 2: return now.time;
            case 3: return now.order;
            case 4: return rules.every;
            case 5: return rules.base;
            case 6: return rules.fade;
            case 7: return rules.patience;
            case 8: return rules.appeal;
            case 9: return now.free;
            case 10: return now.loanCount;
            case 11: return now.openLoans(NONE);
            case 12: return now.brokenLoans(NONE);
            case 13: return now.claimCount;
            case 14: return now.claimsThat(NONE, WAITS);
            case 15: return now.claimsThat(NONE, MET);
            case 16: return now.claimsThat(NONE, REFUSED);
            case 17: return now.hearings;
            case 18: return now.fineCount;
            case 19: return now.takenBack;
            case 20: return past.count;
            default: return NONE;
        }
    }

    public int find() {
        int process = rules.processNamed(input, 0, input.length);
        input.length = 0;
        return process;
    }

    public int process(int process, int what) throws IndexOutOfBoundsException {
        needProcess(process);
        switch (what) {
            case 0: return now.processes.get(process, Court.RECORD);
            case 1: return now.processes.get(process, Court.BAR);
            case 2: return now.processes.get(process, Court.STALL);
            case 3: return now.heldPages(process);
            case 4: return now.openLoans(process);
            case 5: return now.brokenLoans(process);
            case 6: return now.claimsThat(process, WAITS);
            case 7: return now.claimsThat(process, MET);
            case 8: return now.processes.get(process, Court.FINES);
            case 9: return now.processes.get(process, Court.STALLED);
            default: throw new IndexOutOfBoundsException("no such property of a process");
        }
    }

    public int loan(int loan, int what) throws IndexOutOfBoundsException {
        needLoan(loan);
        if (what < 0 || what > 7) {
            throw new IndexOutOfBoundsException("no such property of a loan");
        }
        if (what == 5) {
            return now.isBroken(loan) ? 1 : 0;
        }
        return now.loans.get(loan, what);
    }

    public int page(int page) throws IndexOutOfBoundsException {
        if (page < 0 || page >= rules.pages) {
            throw new IndexOutOfBoundsException("no such page");
        }
        return now.loanOf(page);
    }

    public int pageOf(int loan, int index) throws IndexOutOfBoundsException, NoSuchElementException {
        needLoan(loan);
        int page = now.pageAt(loan, index);
        if (page == NONE) {
            throw new NoSuchElementException("no such page of the loan");
        }
        return page;
    }

    public int pieces(int loan) throws IndexOutOfBoundsException {
        needLoan(loan);
        return now.rowsOf(loan);
    }

    public int longestFree() {
        return now.longestRow(NONE);
    }

    public int claim(int claim, int what) throws IndexOutOfBoundsException {
        needClaim(claim);
        if (what < 0 || what > 6) {
            throw new IndexOutOfBoundsException("no such property of a claim");
        }
        return now.claims.get(claim, what);
    }

    public int waiting(int index) throws NoSuchElementException {
        int count = now.lineUp();
        if (index < 0 || index >= count) {
            throw new NoSuchElementException("not so many claims wait");
        }
        return now.inLine(index);
    }

    public int fine(int fine, int what) throws IllegalArgumentException, NoSuchElementException {
        if (what < 0 || what > 7) {
            throw new IllegalArgumentException("no such property of a fine");
        }
        needFine(fine);
        return now.ofFine(fine, what);
    }

    public int evidence(int fine) throws NoSuchElementException {
        needFine(fine);
        return now.evidenceFor(fine);
    }

    public boolean wasStalled(int process, int time) throws IndexOutOfBoundsException {
        needProcess(process);
        return now.stalledIn(process, time);
    }

    public int nextHearing() {
        return rules.hearingAfter(now.time);
    }

    public int shortage() {
        return Math.max(0, now.waitingPages() - now.free);
    }

    public int overdue() {
        return now.brokenPages();
    }

    public int firstBroken() {
        return now.earliestBroken();
    }

    public int worst() {
        return now.greatestRecord(rules.processes);
    }

    public double meanLate() {
        int broken = now.brokenLoans(NONE);
        return broken == 0 ? 0.0 : (double) now.lateness() / (double) broken;
    }

    public float metShare() {
        int met = now.claimsThat(NONE, MET);
        int judged = met + now.claimsThat(NONE, REFUSED);
        return judged == 0 ? 0.0f : (float) met / (float) judged;
    }

    // ---- changes

    public int run(int ticks) throws IllegalArgumentException, IllegalStateException {
        needTicks(ticks);
        if (now.time + ticks > MOST_TIME) {
            throw new IllegalStateException("the time would be too great");
        }
        past.keep(now);
        int met = 0;
        for (int i = 0; i < ticks; i++) {
            met += now.tick(rules);
        }
        return met;
    }

    public int ask(int process, int pages, int term)
            throws IndexOutOfBoundsException, IllegalArgumentException, IllegalStateException {
        needProcess(process);
        if (pages < 1 || pages > rules.pages || term < 1 || term > MOST_TERM) {
            throw new IllegalArgumentException("pages or term out of range");
        }
        if (now.claimCount >= MOST_CLAIMS) {
            throw new IllegalStateException("there are no more claims");
        }
        past.keep(now);
        return now.addClaim(process, pages, term);
    }

    public int withdraw(int claim) throws IndexOutOfBoundsException, IllegalStateException {
        needClaim(claim);
        if (!now.waits(claim)) {
            throw new IllegalStateException("the claim does not wait");
        }
        past.keep(now);
        now.claims.set(claim, Court.STATE, WITHDRAWN);
        return now.claims.get(claim, Court.PUT_OFF);
    }

    public int giveBack(int loan, int pages) throws IndexOutOfBoundsException, IllegalArgumentException {
        needLoan(loan);
        if (pages < 1 || pages > now.loans.get(loan, Court.PAGES)) {
            throw new IllegalArgumentException("the loan has not so many pages");
        }
        past.keep(now);
        now.release(loan, pages);
        return now.loans.get(loan, Court.PAGES);
    }

    public int renew(int loan, int ticks)
            throws IndexOutOfBoundsException, IllegalArgumentException, IllegalStateException {
        needLoan(loan);
        if (ticks < 1 || ticks > MOST_TERM) {
            throw new IllegalArgumentException("ticks out of range");
        }
        if (!now.isRenewable(loan)) {
            throw new IllegalStateException("the promise cannot be renewed");
        }
        past.keep(now);
        now.loans.add(loan, Court.DUE, ticks);
        return now.loans.get(loan, Court.DUE);
    }

    public int stall(int process, int ticks) throws IndexOutOfBoundsException, IllegalArgumentException {
        needProcess(process);
        if (ticks < 0 || ticks > MOST_STALL) {
            throw new IllegalArgumentException("ticks out of range");
        }
        past.keep(now);
        int before = now.processes.get(process, Court.STALL);
        now.processes.set(process, Court.STALL, ticks);
        return before;
    }

    public int appeal(int fine) throws IllegalStateException, NoSuchElementException {
        // Of a fine that is not known any more nothing else is known either: neither whether it
        // was appealed nor when. So only a fine that is known can be too late.
        needFine(fine);
        if (!now.isAppealable(fine, rules.appeal)) {
            throw new IllegalStateException("the fine cannot be appealed any more");
        }
        past.keep(now);
        return now.lessen(fine, now.evidenceFor(fine));
    }

    public int setOrder(int order) throws IllegalArgumentException {
        if (order < FIRST || order > CLEAN) {
            throw new IllegalArgumentException("no such order");
        }
        past.keep(now);
        int before = now.order;
        now.order = order;
        return before;
    }

    public int undo() throws IllegalStateException {
        if (past.count == 0) {
            throw new IllegalStateException("there is nothing to undo");
        }
        past.bringBack(now);
        return past.count;
    }

    // ---- forecasts

    public int metIn(int claim, int ticks) throws IndexOutOfBoundsException, IllegalArgumentException {
        needClaim(claim);
        needTicks(ticks);
        return ticksUntil(claim, MET, ticks);
    }

    public int refusedIn(int claim, int ticks) throws IndexOutOfBoundsException, IllegalArgumentException {
        needClaim(claim);
        needTicks(ticks);
        return ticksUntil(claim, REFUSED, ticks);
    }

    public int wouldFine(int loan) throws IndexOutOfBoundsException {
        needLoan(loan);
        if (nextHearing() == NONE) {
            return 0;
        }
        forecast.copyFrom(now);
        passToHearing();
        return forecast.loans.get(loan, Court.LATEST_FINE);
    }

    public int wouldPay(int process) throws IndexOutOfBoundsException {
        needProcess(process);
        if (nextHearing() == NONE) {
            return 0;
        }
        forecast.copyFrom(now);
        passToHearing();
        return forecast.latestFines(process);
    }

    public int freeIn(int ticks) throws IllegalArgumentException {
        needTicks(ticks);
        forecast.copyFrom(now);
        pass(ticks);
        return forecast.free;
    }

    public int processIn(int process, int ticks, int what)
            throws IndexOutOfBoundsException, IllegalArgumentException {
        needProcess(process);
        needTicks(ticks);
        if (what < 0 || what > 2) {
            throw new IllegalArgumentException("no such number of a process");
        }
        forecast.copyFrom(now);
        pass(ticks);
        if (what == 2) {
            return forecast.heldPages(process);
        }
        return forecast.processes.get(process, what == 0 ? Court.RECORD : Court.BAR);
    }

    public int bestOrder(int ticks) throws IllegalArgumentException {
        needTicks(ticks);
        int best = FIRST;
        int most = NONE;
        for (int order = FIRST; order <= CLEAN; order++) {
            forecast.copyFrom(now);
            forecast.order = order;
            int met = pass(ticks);
            if (met > most) {
                most = met;
                best = order;
            }
        }
        return best;
    }

    public int helps(int loan, int claim) throws IndexOutOfBoundsException {
        needLoan(loan);
        needClaim(claim);
        if (!now.waits(claim) || nextHearing() == NONE) {
            return NONE;
        }
        int most = Math.min(MOST_PAGES, now.loans.get(loan, Court.PAGES));
        // Each number is tried: a page more that is given back can also help a claim ahead.
        for (int pages = 0; pages <= most; pages++) {
            forecast.copyFrom(now);
            forecast.release(loan, pages);
            passToHearing();
            if (forecast.claims.get(claim, Court.STATE) == MET) {
                return pages;
            }
        }
        return NONE;
    }

    public int wouldAppeal(int fine) throws NoSuchElementException {
        needFine(fine);
        if (!now.isAppealable(fine, rules.appeal)) {
            return NONE;
        }
        return now.lessBy(fine, now.evidenceFor(fine));
    }

    // ---- output and state

    public int printProcess(int process) throws IndexOutOfBoundsException {
        needProcess(process);
        output.length = 0;
        rules.printName(process, output);
        output.put(' ');
        output.putNumber(now.processes.get(process, Court.RECORD));
        output.put(' ');
        output.putNumber(now.processes.get(process, Court.BAR));
        now.printLoans(process, output);
        return output.length;
    }

    public int outputByte(int index) {
        return output.at(index);
    }

    public int saveState() {
        if (saved == null) {
            saved = new Court();
        }
        saved.copyFrom(now);
        isSaved = true;
        return now.time;
    }

    public int restoreState() throws IllegalStateException {
        if (!isSaved || saved == null) {
            throw new IllegalStateException("no state is saved");
        }
        now.copyFrom(saved);
        past.forget();
        return now.time;
    }

    // ---- helpers of the face

    private void needProcess(int process) {
        if (process < 0 || process >= rules.processes) {
            throw new IndexOutOfBoundsException("no such process");
        }
    }

    private void needLoan(int loan) {
        if (loan < 0 || loan >= now.loanCount) {
            throw new IndexOutOfBoundsException("no such loan");
        }
    }

    private void needClaim(int claim) {
        if (claim < 0 || claim >= now.claimCount) {
            throw new IndexOutOfBoundsException("no such claim");
        }
    }

    private void needFine(int fine) {
        if (!now.isKnown(fine)) {
            throw new NoSuchElementException("no such fine is known");
        }
    }

    private void needTicks(int ticks) {
        if (ticks < 1 || ticks > MOST_TICKS) {
            throw new IllegalArgumentException("ticks out of range");
        }
    }

    private int ticksUntil(int claim, int state, int ticks) {
        if (!now.waits(claim)) {
            return NONE;
        }
        forecast.copyFrom(now);
        int most = Math.min(ticks, MOST_TIME - now.time);
        for (int i = 1; i <= most; i++) {
            forecast.tick(rules);
            if (forecast.claims.get(claim, Court.STATE) == state) {
                return i;
            }
        }
        return NONE;
    }

    private int pass(int ticks) {
        int most = Math.min(ticks, MOST_TIME - now.time);
        int met = 0;
        for (int i = 0; i < most; i++) {
            met += forecast.tick(rules);
        }
        return met;
    }

    private void passToHearing() {
        int ticks = nextHearing() - now.time;
        for (int i = 0; i < ticks; i++) {
            forecast.tick(rules);
        }
    }

    /** A row of bytes with a limit; what is beyond the limit is dropped, and reads as NONE. */
    private static final class Bytes {
        private final byte[] bytes;
        private int length = 0;

        Bytes(int limit) {
            bytes = new byte[Math.max(0, limit)];
        }

        int at(int index) {
            return index >= 0 && index < length && index < bytes.length ? bytes[index] & 255 : NONE;
        }

        void put(int value) {
            if (length >= 0 && length < bytes.length) {
                bytes[length] = (byte) value;
                length++;
            }
        }

        void putWord(int word) {
            put(word >> 24);
            put(word >> 16);
            put(word >> 8);
            put(word);
        }

        void putNumber(int number) {
            for (int unit = 1000000000; unit > 0; unit /= 10) {
                if (number >= unit || unit == 1) {
                    put('0' + number / unit % 10);
                }
            }
        }
    }

    /** Rows of numbers; a cell outside reads as 0 and cannot be set, so that no index ever fails. */
    private static final class Table {
        private final int columns;
        private final int[] cells;

        Table(int rows, int columns) {
            this.columns = columns;
            this.cells = new int[Math.max(0, rows * columns)];
        }

        int get(int row, int column) {
            int index = row * columns + column;
            return index >= 0 && index < cells.length ? cells[index] : 0;
        }

        void set(int row, int column, int value) {
            int index = row * columns + column;
            if (index >= 0 && index < cells.length) {
                cells[index] = value;
            }
        }

        void add(int row, int column, int value) {
            int index = row * columns + column;
            if (index >= 0 && index < cells.length) {
                cells[index] += value;
            }
        }

        void clear() {
            Arrays.fill(cells, 0);
        }

        void copyFrom(Table other) {
            System.arraycopy(other.cells, 0, cells, 0, Math.min(cells.length, other.cells.length));
        }
    }

    /** What the setup text fixes for good. */
    private static final class Rules {
        private int pages = 0;
        private int processes = 0;
        private int every = 0;
        private int base = 0;
        private int fade = 0;
        private int patience = 0;
        private int appeal = 0;
        // The letters of each name, and behind them its length.
        private final Table names = new Table(MOST_PROCESSES, MOST_LETTERS + 1);

        void begin(int pagesTold) {
            pages = pagesTold;
            processes = 0;
            every = Word.EVERY.usual;
            base = Word.BASE.usual;
            fade = Word.FADE.usual;
            patience = Word.PATIENCE.usual;
            appeal = Word.APPEAL.usual;
        }

        void copyFrom(Rules other) {
            pages = other.pages;
            processes = other.processes;
            every = other.every;
            base = other.base;
            fade = other.fade;
            patience = other.patience;
            appeal = other.appeal;
            names.copyFrom(other.names);
        }

        void set(Word word, int value) {
            switch (word) {
                case EVERY: every = value; break;
                case BASE: base = value; break;
                case FADE: fade = value; break;
                case PATIENCE: patience = value; break;
                case APPEAL: appeal = value; break;
                default: break;
            }
        }

        void addProcess(Bytes text, int start, int end) {
            for (int i = start; i < end; i++) {
                names.set(processes, i - start, text.at(i));
            }
            names.set(processes, MOST_LETTERS, end - start);
            processes++;
        }

        /** The process whose name is the text from start to end; NONE without one. */
        int processNamed(Bytes text, int start, int end) {
            for (int process = 0; process < processes; process++) {
                if (isNamed(process, text, start, end)) {
                    return process;
                }
            }
            return NONE;
        }

        private boolean isNamed(int process, Bytes text, int start, int end) {
            if (names.get(process, MOST_LETTERS) != end - start) {
                return false;
            }
            for (int i = start; i < end; i++) {
                if (names.get(process, i - start) != text.at(i)) {
                    return false;
                }
            }
            return true;
        }

        void printName(int process, Bytes out) {
            int length = Math.min(MOST_LETTERS, names.get(process, MOST_LETTERS));
            for (int i = 0; i < length; i++) {
                out.put(names.get(process, i));
            }
        }

        boolean isHearing(int time) {
            return every > 0 && time % every == 0;
        }

        boolean isFading(int time) {
            return fade > 0 && time % fade == 0;
        }

        int hearingAfter(int time) {
            int next = every > 0 ? (time / every + 1) * every : NONE;
            return next <= MOST_TIME ? next : NONE;
        }
    }

    /** The words that the grammar quotes; those that can stand once have a bit of their own. */
    private enum Word {
        OTHER("", 0, 0, 0, 0),
        PAGES("pages", 0, 4, MOST_PAGES, 4),
        PROCESS("process", 0, 0, 0, 0),
        EVERY("every", 1, 1, 50, 5),
        BASE("base", 2, 1, 100, 10),
        FADE("fade", 4, 1, 99, 20),
        PATIENCE("patience", 8, 1, 20, 3),
        APPEAL("appeal", 16, 0, 99, 10),
        ORDER("order", 32, 0, 0, 0),
        BY_FIRST("first", 0, 0, 0, 0),
        BY_SMALL("small", 0, 0, 0, 0),
        BY_CLEAN("clean", 0, 0, 0, 0),
        LOAN("loan", 0, 0, 0, 0),
        ASK("ask", 0, 0, 0, 0);

        private static final Word[] ALL = values();

        private final String text;
        private final int bit;
        private final int low;
        private final int high;
        private final int usual;

        Word(String text, int bit, int low, int high, int usual) {
            this.text = text;
            this.bit = bit;
            this.low = low;
            this.high = high;
            this.usual = usual;
        }

        /** The quoted word that stands from start to before end; OTHER without one. */
        static Word standing(Bytes bytes, int start, int end) {
            for (Word word : ALL) {
                int length = word.text.length();
                boolean same = length == end - start;
                for (int i = 0; i < length && same; i++) {
                    same = word.text.charAt(i) == bytes.at(start + i);
                }
                if (same) {
                    return word;
                }
            }
            return OTHER;
        }
    }

    /** Reads a setup text into rules and a court, up to the first error. */
    private static final class Reader {
        private static final int END = 0, BLANK = 1, STRANGE = 2, SEMICOLON = 3, WORD = 4, NUMBER = 5;
        private static final int MISPLACED = 1, OUT_OF_RANGE = 2, WRONG_NAME = 3, TOO_MANY = 4;
        private static final int MOST_DIGITS = 3;

        private final Bytes input;
        private final Court court;
        private final Rules rules = new Rules();
        private int code = 0;
        private int offset = NONE;
        // The token that is read next, from start to before end.
        private int kind = END;
        private int start = 0;
        private int end = 0;
        private Word word = Word.OTHER;
        // What the tokens before it told.
        private int process = 0;
        private int number = 0;
        private int toldOnce = 0;

        Reader(Bytes input, Court court) {
            this.input = input;
            this.court = court;
        }

        /** Returns whether the text has no error; the code and the offset are set in any case. */
        boolean readText() {
            code = 0;
            offset = NONE;
            toldOnce = 0;
            end = 0;
            advance();
            if (!readPages()) {
                return false;
            }
            // A statement has more bytes than one, so this ends behind the last one.
            for (int left = input.length; left > 0 && kind != END; left--) {
                if (!readStatement() || !readSemicolon()) {
                    return false;
                }
            }
            return true;
        }

        private boolean readPages() {
            if (word != Word.PAGES) {
                return fail(MISPLACED);
            }
            advance();
            if (!readNumber(Word.PAGES.low, Word.PAGES.high)) {
                return false;
            }
            rules.begin(number);
            court.begin(number);
            return readSemicolon();
        }

        private boolean readStatement() {
            switch (word) {
                case PROCESS: return readNewProcess();
                case LOAN: return readLoan();
                case ASK: return readClaim();
                case ORDER: return readOrder();
                case EVERY:
                case BASE:
                case FADE:
                case PATIENCE:
                case APPEAL: return readSetting();
                default: return fail(MISPLACED);
            }
        }

        private boolean readNewProcess() {
            if (rules.processes >= MOST_PROCESSES) {
                return fail(TOO_MANY);
            }
            advance();
            if (!isName()) {
                return fail(MISPLACED);
            }
            if (rules.processNamed(input, start, end) != NONE) {
                return fail(WRONG_NAME);
            }
            rules.addProcess(input, start, end);
            advance();
            return true;
        }

        private boolean readLoan() {
            if (court.loanCount >= MOST_TOLD_LOANS) {
                return fail(TOO_MANY);
            }
            advance();
            if (!readProcess() || !readNumber(1, court.free)) {
                return false;
            }
            int pages = number;
            if (!readNumber(1, MOST_TERM)) {
                return false;
            }
            court.lend(process, pages, number, NONE);
            return true;
        }

        private boolean readClaim() {
            if (court.claimCount >= MOST_CLAIMS) {
                return fail(TOO_MANY);
            }
            advance();
            if (!readProcess() || !readNumber(1, rules.pages)) {
                return false;
            }
            int pages = number;
            if (!readNumber(1, MOST_TERM)) {
                return false;
            }
            court.addClaim(process, pages, number);
            return true;
        }

        private boolean readOrder() {
            if (!isFirstOfItsKind()) {
                return fail(WRONG_NAME);
            }
            advance();
            switch (word) {
                case BY_FIRST: court.order = FIRST; break;
                case BY_SMALL: court.order = SMALL; break;
                case BY_CLEAN: court.order = CLEAN; break;
                default: return fail(MISPLACED);
            }
            advance();
            return true;
        }

        private boolean readSetting() {
            if (!isFirstOfItsKind()) {
                return fail(WRONG_NAME);
            }
            Word setting = word;
            advance();
            if (!readNumber(setting.low, setting.high)) {
                return false;
            }
            rules.set(setting, number);
            return true;
        }

        private boolean isFirstOfItsKind() {
            boolean first = (toldOnce & word.bit) == 0;
            toldOnce |= word.bit;
            return first;
        }

        private boolean readProcess() {
            if (!isName()) {
                return fail(MISPLACED);
            }
            process = rules.processNamed(input, start, end);
            if (process == NONE) {
                return fail(WRONG_NAME);
            }
            advance();
            return true;
        }

        private boolean isName() {
            return kind == WORD && word == Word.OTHER && end - start <= MOST_LETTERS;
        }

        private boolean readNumber(int low, int high) {
            if (kind != NUMBER || end - start > MOST_DIGITS) {
                return fail(MISPLACED);
            }
            int value = 0;
            for (int i = start; i < end; i++) {
                value = value * 10 + input.at(i) - '0';
            }
            if (value < low || value > high) {
                return fail(OUT_OF_RANGE);
            }
            number = value;
            advance();
            return true;
        }

        private boolean readSemicolon() {
            if (kind != SEMICOLON) {
                return fail(MISPLACED);
            }
            advance();
            return true;
        }

        private boolean fail(int errorCode) {
            code = errorCode;
            offset = start;
            return false;
        }

        private void advance() {
            start = end;
            for (int i = end; i < input.length && kindAt(i) == BLANK; i++) {
                start = i + 1;
            }
            kind = kindAt(start);
            end = kind == END ? start : start + 1;
            if (kind == WORD || kind == NUMBER) {
                for (int i = end; i < input.length && kindAt(i) == kind; i++) {
                    end = i + 1;
                }
            }
            word = kind == WORD ? Word.standing(input, start, end) : Word.OTHER;
        }

        private int kindAt(int index) {
            int sign = input.at(index);
            if (sign == NONE) {
                return END;
            }
            if (sign == ' ' || sign == 10) {
                return BLANK;
            }
            if (sign == ';') {
                return SEMICOLON;
            }
            if (sign >= 'a' && sign <= 'z') {
                return WORD;
            }
            return sign >= '0' && sign <= '9' ? NUMBER : STRANGE;
        }
    }

    /** All that changes: time, pages, processes, loans, claims and fines. */
    private static final class Court {
        // Columns of the tables; those that the face shows bear the numbers that it gives them.
        private static final int RECORD = 0, BAR = 1, STALL = 2, FINES = 3, STALLED = 4;
        private static final int PROCESS = 0, PAGES = 1;
        private static final int DUE = 2, MADE = 3, CLAIM = 4, LATEST_FINE = 5, TAKEN = 6, GOT = 7;
        private static final int TERM = 2, STATE = 3, PUT_OFF = 4, LOAN = 5, ASKED = 6;
        private static final int FINED = 1, WEIGHT = 2, BEGIN = 3, END = 4, AMOUNT = 5, APPEALED = 6, AT_FIRST = 7;
        // Pages that the setup does not have: neither free nor of a loan.
        private static final int OUTSIDE = -2;

        private int time = 0;
        private int order = FIRST;
        private int free = 0;
        private int loanCount = 0;
        private int claimCount = 0;
        private int fineCount = 0;
        private int hearings = 0;
        private int latestHearing = 0;
        private int takenBack = 0;
        // Which processes were stalled in which ticks: a bit for each of 8 processes, 8 ticks a cell.
        private final long[] stalledTicks = new long[MOST_TIME / 8 + 1];
        private final int[] owners = new int[MOST_PAGES];
        private final Table processes = new Table(MOST_PROCESSES, 5);
        private final Table loans = new Table(MOST_LOANS, 8);
        private final Table claims = new Table(MOST_CLAIMS, 7);
        private final Table fines = new Table(KNOWN_FINES, 8);
        // Room to line claims up in; what it holds between calls does not matter.
        private final int[] line = new int[MOST_CLAIMS];

        void begin(int pages) {
            time = 0;
            order = FIRST;
            free = pages;
            loanCount = 0;
            claimCount = 0;
            fineCount = 0;
            hearings = 0;
            latestHearing = 0;
            takenBack = 0;
            processes.clear();
            Arrays.fill(stalledTicks, 0L);
            for (int page = 0; page < owners.length; page++) {
                owners[page] = page < pages ? NONE : OUTSIDE;
            }
        }

        void copyFrom(Court other) {
            time = other.time;
            order = other.order;
            free = other.free;
            loanCount = other.loanCount;
            claimCount = other.claimCount;
            fineCount = other.fineCount;
            hearings = other.hearings;
            latestHearing = other.latestHearing;
            takenBack = other.takenBack;
            System.arraycopy(other.owners, 0, owners, 0, owners.length);
            System.arraycopy(other.stalledTicks, 0, stalledTicks, 0, stalledTicks.length);
            processes.copyFrom(other.processes);
            loans.copyFrom(other.loans);
            claims.copyFrom(other.claims);
            fines.copyFrom(other.fines);
        }

        // -- pages

        /** The loan of a page; NONE if it is free. */
        int loanOf(int page) {
            return page >= 0 && page < owners.length ? owners[page] : NONE;
        }

        /** A page of a loan by its index among them; NONE without one. */
        int pageAt(int loan, int index) {
            int seen = 0;
            for (int page = 0; page < owners.length; page++) {
                if (owners[page] == loan) {
                    if (seen == index) {
                        return page;
                    }
                    seen++;
                }
            }
            return NONE;
        }

        int rowsOf(int loan) {
            int rows = 0;
            boolean within = false;
            for (int owner : owners) {
                if (owner == loan && !within) {
                    rows++;
                }
                within = owner == loan;
            }
            return rows;
        }

        /** The length of the longest row of pages that belong to this loan, or are free with NONE. */
        int longestRow(int loan) {
            int longest = 0;
            int length = 0;
            for (int owner : owners) {
                length = owner == loan ? length + 1 : 0;
                longest = Math.max(longest, length);
            }
            return longest;
        }

        // -- loans

        int lend(int process, int pages, int due, int claim) {
            int loan = loanCount;
            loanCount++;
            loans.set(loan, PROCESS, process);
            loans.set(loan, PAGES, pages);
            loans.set(loan, DUE, due);
            loans.set(loan, MADE, time);
            loans.set(loan, CLAIM, claim);
            loans.set(loan, LATEST_FINE, 0);
            loans.set(loan, TAKEN, 0);
            loans.set(loan, GOT, pages);
            int left = pages;
            for (int page = 0; page < owners.length && left > 0; page++) {
                if (owners[page] == NONE) {
                    owners[page] = loan;
                    left--;
                }
            }
            free -= pages;
            return loan;
        }

        /** Frees pages of a loan, those with the greatest numbers first. */
        void release(int loan, int pages) {
            int left = pages;
            for (int page = owners.length - 1; page >= 0 && left > 0; page--) {
                if (owners[page] == loan) {
                    owners[page] = NONE;
                    left--;
                }
            }
            loans.add(loan, PAGES, -pages);
            free += pages;
        }

        boolean isOpen(int loan) {
            return loans.get(loan, PAGES) > 0;
        }

        boolean isBroken(int loan) {
            return loans.get(loan, PAGES) > 0 && loans.get(loan, DUE) < time;
        }

        boolean isRenewable(int loan) {
            int process = loans.get(loan, PROCESS);
            return isOpen(loan) && !isBroken(loan) && processes.get(process, RECORD) == 0
                && claimsThat(process, WAITS) == claimsThat(NONE, WAITS);
        }

        /** Whether a loan is of this process; every loan is, where NONE stands for all. */
        private boolean isLoanOf(int loan, int process) {
            return process == NONE || loans.get(loan, PROCESS) == process;
        }

        int openLoans(int process) {
            int count = 0;
            for (int loan = 0; loan < loanCount; loan++) {
                if (isOpen(loan) && isLoanOf(loan, process)) {
                    count++;
                }
            }
            return count;
        }

        int brokenLoans(int process) {
            int count = 0;
            for (int loan = 0; loan < loanCount; loan++) {
                if (isBroken(loan) && isLoanOf(loan, process)) {
                    count++;
                }
            }
            return count;
        }

        int heldPages(int process) {
            int sum = 0;
            for (int loan = 0; loan < loanCount; loan++) {
                if (isLoanOf(loan, process)) {
                    sum += loans.get(loan, PAGES);
                }
            }
            return sum;
        }

        /** The fines of a process in the latest hearing together. */
        int latestFines(int process) {
            int sum = 0;
            for (int loan = 0; loan < loanCount; loan++) {
                if (isLoanOf(loan, process)) {
                    sum += loans.get(loan, LATEST_FINE);
                }
            }
            return sum;
        }

        int brokenPages() {
            int sum = 0;
            for (int loan = 0; loan < loanCount; loan++) {
                if (isBroken(loan)) {
                    sum += loans.get(loan, PAGES);
                }
            }
            return sum;
        }

        int lateness() {
            int sum = 0;
            for (int loan = 0; loan < loanCount; loan++) {
                if (isBroken(loan)) {
                    sum += time - loans.get(loan, DUE);
                }
            }
            return sum;
        }

        /** The broken loan with the smallest due time; NONE without one. */
        int earliestBroken() {
            int earliest = NONE;
            int due = time;
            for (int loan = 0; loan < loanCount; loan++) {
                if (loans.get(loan, DUE) < due && loans.get(loan, PAGES) > 0) {
                    earliest = loan;
                    due = loans.get(loan, DUE);
                }
            }
            return earliest;
        }

        void printLoans(int process, Bytes out) {
            for (int loan = 0; loan < loanCount; loan++) {
                if (isOpen(loan) && isLoanOf(loan, process)) {
                    out.put(' ');
                    out.putNumber(loans.get(loan, PAGES));
                    out.put('@');
                    out.putNumber(loans.get(loan, DUE));
                    if (isBroken(loan)) {
                        out.put('!');
                    }
                }
            }
        }

        int greatestRecord(int processCount) {
            int worst = NONE;
            int record = 0;
            for (int process = 0; process < processCount; process++) {
                if (processes.get(process, RECORD) > record) {
                    worst = process;
                    record = processes.get(process, RECORD);
                }
            }
            return worst;
        }

        // -- claims

        int addClaim(int process, int pages, int term) {
            int claim = claimCount;
            claimCount++;
            claims.set(claim, PROCESS, process);
            claims.set(claim, PAGES, pages);
            claims.set(claim, TERM, term);
            claims.set(claim, STATE, WAITS);
            claims.set(claim, PUT_OFF, 0);
            claims.set(claim, LOAN, NONE);
            claims.set(claim, ASKED, time);
            return claim;
        }

        boolean waits(int claim) {
            return claims.get(claim, STATE) == WAITS;
        }

        /** Counts the claims of a process, or of all with NONE, in a state. */
        int claimsThat(int process, int state) {
            int count = 0;
            for (int claim = 0; claim < claimCount; claim++) {
                if (claims.get(claim, STATE) == state
                        && (process == NONE || claims.get(claim, PROCESS) == process)) {
                    count++;
                }
            }
            return count;
        }

        int waitingPages() {
            int sum = 0;
            for (int claim = 0; claim < claimCount; claim++) {
                if (waits(claim)) {
                    sum += claims.get(claim, PAGES);
                }
            }
            return sum;
        }

        /** Lines the claims that wait up in their order and returns how many there are. */
        int lineUp() {
            int count = 0;
            for (int claim = 0; claim < claimCount && count < line.length; claim++) {
                if (waits(claim)) {
                    int place = count;
                    int rank = rankOf(claim);
                    // On a tie the new one stays behind, as its number is greater.
                    for (; place > 0 && rankOf(line[place - 1]) > rank; place--) {
                        line[place] = line[place - 1];
                    }
                    line[place] = claim;
                    count++;
                }
            }
            return count;
        }

        int inLine(int index) {
            return index >= 0 && index < line.length ? line[index] : NONE;
        }

        private int rankOf(int claim) {
            switch (order) {
                case SMALL: return claims.get(claim, PAGES);
                case CLEAN: return processes.get(claims.get(claim, PROCESS), RECORD);
                default: return 0;
            }
        }

        // -- fines

        boolean isKnown(int fine) {
            return fine >= 0 && fine < fineCount && fine >= fineCount - KNOWN_FINES;
        }

        /** A property of a fine that is known: the latest ones go round in the table. */
        int ofFine(int fine, int column) {
            return fines.get(fine % KNOWN_FINES, column);
        }

        boolean isAppealable(int fine, int appeal) {
            return ofFine(fine, APPEALED) == 0 && time - ofFine(fine, END) <= appeal;
        }

        /** Whether a process was stalled in the tick with this time behind it. */
        boolean stalledIn(int process, int tick) {
            int cell = tick >> 3;
            return cell >= 0 && cell < stalledTicks.length
                && (stalledTicks[cell] >> (tick & 7) * 8 + process & 1L) == 1L;
        }

        /** The ticks of the span of a fine in which its process was stalled. */
        int evidenceFor(int fine) {
            int process = ofFine(fine, PROCESS);
            int end = ofFine(fine, END);
            int count = 0;
            for (int tick = ofFine(fine, BEGIN) + 1; tick <= end; tick++) {
                if (stalledIn(process, tick)) {
                    count++;
                }
            }
            return count;
        }

        /** By how much an appeal with this evidence would make a fine less. */
        int lessBy(int fine, int evidence) {
            int amount = ofFine(fine, AMOUNT);
            int length = ofFine(fine, END) - ofFine(fine, BEGIN);
            return amount - quotientUp(amount * (length - evidence), length);
        }

        int lessen(int fine, int evidence) {
            int row = fine % KNOWN_FINES;
            int process = ofFine(fine, PROCESS);
            int length = ofFine(fine, END) - ofFine(fine, BEGIN);
            int less = lessBy(fine, evidence);
            int forgiven = length > 0 ? ofFine(fine, WEIGHT) * evidence / length : 0;
            fines.add(row, AMOUNT, -less);
            fines.set(row, APPEALED, 1);
            processes.set(process, BAR, Math.max(0, processes.get(process, BAR) - less));
            processes.set(process, RECORD, Math.max(0, processes.get(process, RECORD) - forgiven));
            return less;
        }

        private static int quotientUp(int dividend, int divisor) {
            return divisor > 0 ? (dividend + divisor - 1) / divisor : 0;
        }

        // -- a tick

        /** Lets a tick pass and returns the number of claims that are met in it. */
        int tick(Rules rules) {
            time++;
            for (int process = 0; process < rules.processes; process++) {
                if (processes.get(process, STALL) > 0) {
                    processes.add(process, STALL, -1);
                    processes.add(process, STALLED, 1);
                    noteStalled(process);
                }
                if (processes.get(process, BAR) > 0) {
                    processes.add(process, BAR, -1);
                }
                if (rules.isFading(time)) {
                    processes.set(process, RECORD, processes.get(process, RECORD) / 2);
                }
            }
            if (!rules.isHearing(time)) {
                return 0;
            }
            hearFines(rules);
            hearings++;
            latestHearing = time;
            return hearClaims(rules);
        }

        private void noteStalled(int process) {
            int cell = time >> 3;
            if (cell >= 0 && cell < stalledTicks.length) {
                stalledTicks[cell] |= 1L << (time & 7) * 8 + process;
            }
        }

        private void hearFines(Rules rules) {
            for (int loan = 0; loan < loanCount; loan++) {
                loans.set(loan, LATEST_FINE, isBroken(loan) ? fineFor(loan, rules.base) : 0);
            }
        }

        /** Fines the process of a broken loan and returns the fine. */
        private int fineFor(int loan, int base) {
            int process = loans.get(loan, PROCESS);
            int record = processes.get(process, RECORD);
            int begin = Math.max(loans.get(loan, DUE), latestHearing);
            int weight = (time - begin) * loans.get(loan, PAGES);
            int amount = Math.min(MOST_FINE, quotientUp(weight * (base + record), 100));
            int row = fineCount % KNOWN_FINES;
            fineCount++;
            fines.set(row, PROCESS, process);
            fines.set(row, FINED, loan);
            fines.set(row, WEIGHT, weight);
            fines.set(row, BEGIN, begin);
            fines.set(row, END, time);
            fines.set(row, AMOUNT, amount);
            fines.set(row, APPEALED, 0);
            fines.set(row, AT_FIRST, amount);
            processes.add(process, FINES, 1);
            processes.set(process, BAR, Math.min(MOST_BAR, processes.get(process, BAR) + amount));
            processes.set(process, RECORD, Math.min(MOST_RECORD, record + weight));
            return amount;
        }

        private int hearClaims(Rules rules) {
            int count = lineUp();
            int met = 0;
            for (int i = 0; i < count; i++) {
                int claim = inLine(i);
                if (meets(claim)) {
                    met++;
                } else {
                    putOff(claim, rules.patience);
                }
            }
            return met;
        }

        /** Meets a claim if that is possible, and returns whether it was. */
        private boolean meets(int claim) {
            int process = claims.get(claim, PROCESS);
            int pages = claims.get(claim, PAGES);
            if (processes.get(process, BAR) > 0) {
                return false;
            }
            if (pages > free) {
                if (pages - free > brokenPages()) {
                    return false;
                }
                takeBack(pages - free);
            }
            int loan = lend(process, pages, time + claims.get(claim, TERM), claim);
            claims.set(claim, STATE, MET);
            claims.set(claim, LOAN, loan);
            return true;
        }

        private void takeBack(int pages) {
            int left = pages;
            // Each round closes a loan, apart from the last one.
            for (int round = 0; round < loanCount && left > 0; round++) {
                int loan = earliestBroken();
                int taken = Math.min(left, loans.get(loan, PAGES));
                release(loan, taken);
                loans.add(loan, TAKEN, taken);
                takenBack += taken;
                left -= taken;
            }
        }

        private void putOff(int claim, int patience) {
            claims.add(claim, PUT_OFF, 1);
            if (claims.get(claim, PUT_OFF) >= patience) {
                claims.set(claim, STATE, REFUSED);
            }
        }
    }

    /** The courts before the latest changes; the oldest one makes room for a new one. */
    private static final class Past {
        // A court is made when it is needed first: most objects see few changes.
        private final Court[] courts = new Court[KEPT_CHANGES];
        private int next = 0;
        private int count = 0;

        void keep(Court court) {
            Court kept = courts[next];
            if (kept == null) {
                kept = new Court();
                courts[next] = kept;
            }
            kept.copyFrom(court);
            next = Math.floorMod(next + 1, KEPT_CHANGES);
            count = Math.min(KEPT_CHANGES, count + 1);
        }

        void bringBack(Court court) {
            next = Math.floorMod(next - 1, KEPT_CHANGES);
            count--;
            Court kept = courts[next];
            if (kept != null) {
                court.copyFrom(kept);
            }
        }

        void forget() {
            count = 0;
        }
    }
}
