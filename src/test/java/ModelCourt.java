import java.util.ArrayList;
import java.util.Comparator;
import java.util.List;
import java.util.NoSuchElementException;
import java.util.Set;
import java.util.regex.Matcher;
import java.util.regex.Pattern;

/**
 * The document written a second time, with the Java library and without regard to room or speed:
 * lists of objects, every state copied whole. ModelTest compares MemoryCourt with it.
 */
final class ModelCourt {
    static final Set<String> QUOTED = Set.of("pages", "process", "every", "base", "fade", "patience",
        "appeal", "order", "first", "small", "clean", "loan", "ask");
    static final List<String> ORDERS = List.of("first", "small", "clean");

    static final class Process {
        String name;
        int record, bar, stall, fines;
        List<Integer> stalledAt = new ArrayList<>();
    }

    static final class Loan {
        int process, due, made, claim, taken, got;
        List<Integer> pages = new ArrayList<>();
    }

    static final class Claim {
        int process, pages, term, state, putOff, loan = -1, asked;
    }

    static final class Fine {
        int process, loan, weight, begin, end, now, atFirst;
        boolean appealed;
    }

    static final class State {
        int pages = 4, every = 5, base = 10, fade = 20, patience = 3, appeal = 10;
        int time, order, hearings, before, takenBack;
        List<Process> processes = new ArrayList<>();
        List<Loan> loans = new ArrayList<>();
        List<Claim> claims = new ArrayList<>();
        List<Fine> fines = new ArrayList<>();

        State copy() {
            State s = new State();
            s.pages = pages; s.every = every; s.base = base; s.fade = fade; s.patience = patience; s.appeal = appeal;
            s.time = time; s.order = order; s.hearings = hearings; s.before = before; s.takenBack = takenBack;
            for (Process p : processes) {
                Process q = new Process();
                q.name = p.name; q.record = p.record; q.bar = p.bar; q.stall = p.stall; q.fines = p.fines;
                q.stalledAt.addAll(p.stalledAt);
                s.processes.add(q);
            }
            for (Loan l : loans) {
                Loan m = new Loan();
                m.process = l.process; m.due = l.due; m.made = l.made; m.claim = l.claim; m.taken = l.taken; m.got = l.got;
                m.pages.addAll(l.pages);
                s.loans.add(m);
            }
            for (Claim c : claims) {
                Claim d = new Claim();
                d.process = c.process; d.pages = c.pages; d.term = c.term; d.state = c.state;
                d.putOff = c.putOff; d.loan = c.loan; d.asked = c.asked;
                s.claims.add(d);
            }
            for (Fine f : fines) {
                Fine g = new Fine();
                g.process = f.process; g.loan = f.loan; g.weight = f.weight; g.begin = f.begin; g.end = f.end;
                g.now = f.now; g.atFirst = f.atFirst; g.appealed = f.appealed;
                s.fines.add(g);
            }
            return s;
        }

        int ownerOf(int page) {
            for (int l = 0; l < loans.size(); l++) {
                if (loans.get(l).pages.contains(page)) {
                    return l;
                }
            }
            return -1;
        }

        int free() {
            int free = pages;
            for (Loan l : loans) {
                free -= l.pages.size();
            }
            return free;
        }

        boolean broken(Loan l) {
            return !l.pages.isEmpty() && time > l.due;
        }

        Loan lend(int process, int count, int due, int claim) {
            Loan l = new Loan();
            l.process = process; l.due = due; l.made = time; l.claim = claim; l.got = count;
            for (int p = 0; p < pages && l.pages.size() < count; p++) {
                if (ownerOf(p) < 0) {
                    l.pages.add(p);
                }
            }
            loans.add(l);
            return l;
        }

        void drop(Loan l, int count) {
            for (int i = 0; i < count; i++) {
                l.pages.remove(l.pages.size() - 1);
            }
        }

        int addClaim(int process, int count, int term) {
            Claim c = new Claim();
            c.process = process; c.pages = count; c.term = term; c.asked = time;
            claims.add(c);
            return claims.size() - 1;
        }

        List<Claim> line() {
            List<Claim> line = new ArrayList<>();
            for (Claim c : claims) {
                if (c.state == 0) {
                    line.add(c);
                }
            }
            if (order == 1) {
                line.sort(Comparator.comparingInt(c -> c.pages));
            } else if (order == 2) {
                line.sort(Comparator.comparingInt(c -> processes.get(c.process).record));
            }
            return line;
        }

        List<Loan> brokenByDue() {
            List<Loan> list = new ArrayList<>();
            for (Loan l : loans) {
                if (broken(l)) {
                    list.add(l);
                }
            }
            list.sort(Comparator.comparingInt(l -> l.due));
            return list;
        }

        int tick() {
            time++;
            for (Process p : processes) {
                if (p.stall > 0) {
                    p.stalledAt.add(time);
                    p.stall--;
                }
                p.bar = Math.max(0, p.bar - 1);
                if (time % fade == 0) {
                    p.record = p.record / 2;
                }
            }
            return time % every == 0 ? hearing() : 0;
        }

        int hearing() {
            for (int l = 0; l < loans.size(); l++) {
                Loan loan = loans.get(l);
                if (broken(loan)) {
                    Process p = processes.get(loan.process);
                    Fine f = new Fine();
                    f.process = loan.process; f.loan = l; f.end = time;
                    f.begin = Math.max(loan.due, before);
                    f.weight = (time - f.begin) * loan.pages.size();
                    f.now = (int) Math.min(200, Math.ceil(f.weight * (base + p.record) / 100.0));
                    f.atFirst = f.now;
                    fines.add(f);
                    p.fines++;
                    p.bar = Math.min(999, p.bar + f.now);
                    p.record = Math.min(999, p.record + f.weight);
                }
            }
            int met = 0;
            for (Claim c : line()) {
                int broken = 0;
                for (Loan l : brokenByDue()) {
                    broken += l.pages.size();
                }
                if (processes.get(c.process).bar > 0 || c.pages > free() + broken) {
                    c.putOff++;
                    if (c.putOff == patience) {
                        c.state = 2;
                    }
                    continue;
                }
                for (Loan l : brokenByDue()) {
                    int taken = Math.min(l.pages.size(), Math.max(0, c.pages - free()));
                    drop(l, taken);
                    l.taken += taken;
                    takenBack += taken;
                }
                c.loan = loans.size();
                c.state = 1;
                lend(c.process, c.pages, time + c.term, claims.indexOf(c));
                met++;
            }
            hearings++;
            before = time;
            return met;
        }

        int evidence(Fine f) {
            int count = 0;
            for (int t : processes.get(f.process).stalledAt) {
                if (t > f.begin && t <= f.end) {
                    count++;
                }
            }
            return count;
        }

        int appealed(Fine f) {
            int length = f.end - f.begin;
            int rest = f.now * (length - evidence(f));
            return rest / length + (rest % length > 0 ? 1 : 0);
        }
    }

    State s = new State();
    State kept;
    List<State> past = new ArrayList<>();
    StringBuilder in = new StringBuilder();
    String out = "";
    int code = 0, offset = -1;

    int feed(int a, int b, int c, int d, int e) {
        if (in.length() + 20 > 600) {
            return -1;
        }
        for (int word : new int[] {a, b, c, d, e}) {
            for (int shift = 24; shift >= 0; shift -= 8) {
                in.append((char) (word >>> shift & 255));
            }
        }
        return in.length();
    }

    boolean truncate(int length) {
        if (length < 0 || length > in.length()) {
            return false;
        }
        in.setLength(length);
        return true;
    }

    // ---- the text, token by token: {kind, text, offset}

    private static final class Wrong extends RuntimeException {
        private static final long serialVersionUID = 1;
        final int code, offset;
        Wrong(int code, int offset) {
            this.code = code;
            this.offset = offset;
        }
    }

    private List<String> tokens;
    private List<Integer> offsets;
    private int at;

    private String token() {
        return tokens.get(at);
    }

    private Wrong wrong(int code) {
        return new Wrong(code, offsets.get(at));
    }

    private void take(String text) {
        if (!token().equals(text)) {
            throw wrong(1);
        }
        at++;
    }

    private int number(int low, int high) {
        if (!token().matches("[0-9]{1,3}")) {
            throw wrong(1);
        }
        int value = Integer.parseInt(token());
        if (value < low || value > high) {
            throw wrong(2);
        }
        at++;
        return value;
    }

    private int named(State t) {
        if (!token().matches("[a-z]{1,6}") || QUOTED.contains(token())) {
            throw wrong(1);
        }
        for (int p = 0; p < t.processes.size(); p++) {
            if (t.processes.get(p).name.equals(token())) {
                return p;
            }
        }
        return -1;
    }

    private State read(String text) {
        tokens = new ArrayList<>();
        offsets = new ArrayList<>();
        Matcher m = Pattern.compile("[a-z]+|[0-9]+|[^ \n]", Pattern.DOTALL).matcher(text);
        while (m.find()) {
            tokens.add(m.group());
            offsets.add(m.start());
        }
        tokens.add("");
        offsets.add(text.length());
        at = 0;
        State t = new State();
        List<String> once = new ArrayList<>();
        take("pages");
        t.pages = number(4, 64);
        take(";");
        while (!token().isEmpty()) {
            String kind = token();
            switch (kind) {
                case "process" -> {
                    if (t.processes.size() == 8) {
                        throw wrong(4);
                    }
                    at++;
                    if (named(t) >= 0) {
                        throw wrong(3);
                    }
                    Process p = new Process();
                    p.name = token();
                    t.processes.add(p);
                    at++;
                }
                case "loan", "ask" -> {
                    boolean loan = kind.equals("loan");
                    if (loan ? t.loans.size() == 20 : t.claims.size() == 60) {
                        throw wrong(4);
                    }
                    at++;
                    int p = named(t);
                    if (p < 0) {
                        throw wrong(3);
                    }
                    at++;
                    int count = number(1, loan ? t.free() : t.pages);
                    int term = number(1, 99);
                    if (loan) {
                        t.lend(p, count, term, -1);
                    } else {
                        t.addClaim(p, count, term);
                    }
                }
                case "every", "base", "fade", "patience", "appeal", "order" -> {
                    if (once.contains(kind)) {
                        throw wrong(3);
                    }
                    once.add(kind);
                    at++;
                    switch (kind) {
                        case "every" -> t.every = number(1, 50);
                        case "base" -> t.base = number(1, 100);
                        case "fade" -> t.fade = number(1, 99);
                        case "patience" -> t.patience = number(1, 20);
                        case "appeal" -> t.appeal = number(0, 99);
                        default -> {
                            t.order = ORDERS.indexOf(token());
                            if (t.order < 0) {
                                throw wrong(1);
                            }
                            at++;
                        }
                    }
                }
                default -> throw wrong(1);
            }
            take(";");
        }
        return t;
    }

    int parse() {
        String text = in.toString();
        in.setLength(0);
        try {
            s = read(text);
            code = 0;
            offset = -1;
            past.clear();
            kept = null;
            return s.processes.size();
        } catch (Wrong w) {
            code = w.code;
            offset = w.offset;
            return -1;
        }
    }

    int find() {
        String name = in.toString();
        in.setLength(0);
        for (Process p : s.processes) {
            if (p.name.equals(name)) {
                return s.processes.indexOf(p);
            }
        }
        return -1;
    }

    // ---- what there is

    int count(int what) {
        int open = 0, broken = 0;
        for (Loan l : s.loans) {
            open += l.pages.isEmpty() ? 0 : 1;
            broken += s.broken(l) ? 1 : 0;
        }
        int[] states = new int[4];
        for (Claim c : s.claims) {
            states[c.state]++;
        }
        int[] all = {s.pages, s.processes.size(), s.time, s.order, s.every, s.base, s.fade, s.patience, s.appeal,
            s.free(), s.loans.size(), open, broken, s.claims.size(), states[0], states[1], states[2], s.hearings,
            s.fines.size(), s.takenBack, past.size()};
        return what >= 0 && what < all.length ? all[what] : -1;
    }

    private static <T> T in(List<T> list, int index) {
        if (index < 0 || index >= list.size()) {
            throw new IndexOutOfBoundsException();
        }
        return list.get(index);
    }

    private static int in(int[] values, int index) {
        if (index < 0 || index >= values.length) {
            throw new IndexOutOfBoundsException();
        }
        return values[index];
    }

    int process(int process, int what) {
        Process p = in(s.processes, process);
        int pages = 0, open = 0, broken = 0, waits = 0, met = 0;
        for (Loan l : s.loans) {
            if (l.process == process) {
                pages += l.pages.size();
                open += l.pages.isEmpty() ? 0 : 1;
                broken += s.broken(l) ? 1 : 0;
            }
        }
        for (Claim c : s.claims) {
            if (c.process == process) {
                waits += c.state == 0 ? 1 : 0;
                met += c.state == 1 ? 1 : 0;
            }
        }
        return in(new int[] {p.record, p.bar, p.stall, pages, open, broken, waits, met, p.fines, p.stalledAt.size()}, what);
    }

    int loan(int loan, int what) {
        Loan l = in(s.loans, loan);
        return in(new int[] {l.process, l.pages.size(), l.due, l.made, l.claim, s.broken(l) ? 1 : 0, l.taken, l.got}, what);
    }

    int page(int page) {
        if (page < 0 || page >= s.pages) {
            throw new IndexOutOfBoundsException();
        }
        return s.ownerOf(page);
    }

    int pageOf(int loan, int index) {
        Loan l = in(s.loans, loan);
        if (index < 0 || index >= l.pages.size()) {
            throw new NoSuchElementException();
        }
        return l.pages.get(index);
    }

    int pieces(int loan) {
        int pieces = 0;
        for (int p : in(s.loans, loan).pages) {
            pieces += s.loans.get(loan).pages.contains(p - 1) ? 0 : 1;
        }
        return pieces;
    }

    int longestFree() {
        int longest = 0;
        for (int from = 0; from < s.pages; from++) {
            int to = from;
            while (to < s.pages && s.ownerOf(to) < 0) {
                to++;
            }
            longest = Math.max(longest, to - from);
        }
        return longest;
    }

    int claim(int claim, int what) {
        Claim c = in(s.claims, claim);
        return in(new int[] {c.process, c.pages, c.term, c.state, c.putOff, c.loan, c.asked}, what);
    }

    int waiting(int index) {
        List<Claim> line = s.line();
        if (index < 0 || index >= line.size()) {
            throw new NoSuchElementException();
        }
        return s.claims.indexOf(line.get(index));
    }

    private Fine known(int fine) {
        if (fine < 0 || fine >= s.fines.size() || fine < s.fines.size() - 40) {
            throw new NoSuchElementException();
        }
        return s.fines.get(fine);
    }

    int fine(int fine, int what) {
        if (what < 0 || what > 7) {
            throw new IllegalArgumentException();
        }
        Fine f = known(fine);
        return new int[] {f.process, f.loan, f.weight, f.begin, f.end, f.now, f.appealed ? 1 : 0, f.atFirst}[what];
    }

    int evidence(int fine) {
        return s.evidence(known(fine));
    }

    boolean wasStalled(int process, int time) {
        return in(s.processes, process).stalledAt.contains(time);
    }

    int nextHearing() {
        for (int t = s.time + 1; t <= 2000; t++) {
            if (t % s.every == 0) {
                return t;
            }
        }
        return -1;
    }

    int shortage() {
        int wanted = 0;
        for (Claim c : s.line()) {
            wanted += c.pages;
        }
        return Math.max(0, wanted - s.free());
    }

    int overdue() {
        int sum = 0;
        for (Loan l : s.brokenByDue()) {
            sum += l.pages.size();
        }
        return sum;
    }

    int firstBroken() {
        List<Loan> list = s.brokenByDue();
        return list.isEmpty() ? -1 : s.loans.indexOf(list.get(0));
    }

    int worst() {
        int worst = -1, most = 0;
        for (int p = 0; p < s.processes.size(); p++) {
            if (s.processes.get(p).record > most) {
                most = s.processes.get(p).record;
                worst = p;
            }
        }
        return worst;
    }

    double meanLate() {
        List<Loan> list = s.brokenByDue();
        int sum = 0;
        for (Loan l : list) {
            sum += s.time - l.due;
        }
        return list.isEmpty() ? 0 : (double) sum / (double) list.size();
    }

    float metShare() {
        int met = count(15), refused = count(16);
        return met + refused == 0 ? 0 : (float) met / (float) (met + refused);
    }

    // ---- changes

    private void keep() {
        past.add(s.copy());
        if (past.size() > 8) {
            past.remove(0);
        }
    }

    private static void within(int value, int low, int high) {
        if (value < low || value > high) {
            throw new IllegalArgumentException();
        }
    }

    private static void lawful(boolean good) {
        if (!good) {
            throw new IllegalStateException();
        }
    }

    int run(int ticks) {
        within(ticks, 1, 500);
        lawful(s.time + ticks <= 2000);
        keep();
        int met = 0;
        for (int i = 0; i < ticks; i++) {
            met += s.tick();
        }
        return met;
    }

    int ask(int process, int pages, int term) {
        in(s.processes, process);
        within(pages, 1, s.pages);
        within(term, 1, 99);
        lawful(s.claims.size() < 60);
        keep();
        return s.addClaim(process, pages, term);
    }

    int withdraw(int claim) {
        in(s.claims, claim);
        lawful(s.claims.get(claim).state == 0);
        keep();
        s.claims.get(claim).state = 3;
        return s.claims.get(claim).putOff;
    }

    int giveBack(int loan, int pages) {
        within(pages, 1, in(s.loans, loan).pages.size());
        keep();
        s.drop(s.loans.get(loan), pages);
        return s.loans.get(loan).pages.size();
    }

    int renew(int loan, int ticks) {
        Loan l = in(s.loans, loan);
        within(ticks, 1, 99);
        lawful(!l.pages.isEmpty() && !s.broken(l) && s.processes.get(l.process).record == 0);
        for (Claim c : s.line()) {
            lawful(c.process == l.process);
        }
        keep();
        l.due += ticks;
        return l.due;
    }

    int stall(int process, int ticks) {
        Process p = in(s.processes, process);
        within(ticks, 0, 99);
        keep();
        int before = p.stall;
        p.stall = ticks;
        return before;
    }

    int appeal(int fine) {
        Fine f = known(fine);
        lawful(!f.appealed && s.time - f.end <= s.appeal);
        keep();
        Process p = s.processes.get(f.process);
        int less = f.now - s.appealed(f);
        p.bar = Math.max(0, p.bar - less);
        p.record = Math.max(0, p.record - f.weight * s.evidence(f) / (f.end - f.begin));
        f.now -= less;
        f.appealed = true;
        return less;
    }

    int setOrder(int order) {
        within(order, 0, 2);
        keep();
        int before = s.order;
        s.order = order;
        return before;
    }

    int undo() {
        lawful(!past.isEmpty());
        s = past.remove(past.size() - 1);
        return past.size();
    }

    // ---- forecasts

    private int until(int claim, int ticks, int state) {
        in(s.claims, claim);
        within(ticks, 1, 500);
        State t = s.copy();
        if (t.claims.get(claim).state != 0) {
            return -1;
        }
        for (int i = 1; i <= ticks && t.time < 2000; i++) {
            t.tick();
            if (t.claims.get(claim).state == state) {
                return i;
            }
        }
        return -1;
    }

    int metIn(int claim, int ticks) {
        return until(claim, ticks, 1);
    }

    int refusedIn(int claim, int ticks) {
        return until(claim, ticks, 2);
    }

    private State after(int ticks) {
        State t = s.copy();
        for (int i = 0; i < ticks && t.time < 2000; i++) {
            t.tick();
        }
        return t;
    }

    int wouldFine(int loan) {
        in(s.loans, loan);
        if (nextHearing() < 0) {
            return 0;
        }
        State t = after(nextHearing() - s.time);
        for (int f = s.fines.size(); f < t.fines.size(); f++) {
            if (t.fines.get(f).loan == loan) {
                return t.fines.get(f).now;
            }
        }
        return 0;
    }

    int wouldPay(int process) {
        in(s.processes, process);
        int sum = 0;
        for (int l = 0; l < s.loans.size(); l++) {
            sum += s.loans.get(l).process == process ? wouldFine(l) : 0;
        }
        return sum;
    }

    int freeIn(int ticks) {
        within(ticks, 1, 500);
        return after(ticks).free();
    }

    int processIn(int process, int ticks, int what) {
        in(s.processes, process);
        within(ticks, 1, 500);
        within(what, 0, 2);
        State t = after(ticks);
        if (what < 2) {
            return what == 0 ? t.processes.get(process).record : t.processes.get(process).bar;
        }
        int pages = 0;
        for (Loan l : t.loans) {
            pages += l.process == process ? l.pages.size() : 0;
        }
        return pages;
    }

    int bestOrder(int ticks) {
        within(ticks, 1, 500);
        int best = 0, most = -1;
        for (int order = 0; order < 3; order++) {
            State t = s.copy();
            t.order = order;
            int met = 0;
            for (int i = 0; i < ticks && t.time < 2000; i++) {
                met += t.tick();
            }
            if (met > most) {
                most = met;
                best = order;
            }
        }
        return best;
    }

    int helps(int loan, int claim) {
        in(s.loans, loan);
        in(s.claims, claim);
        if (s.claims.get(claim).state != 0 || nextHearing() < 0) {
            return -1;
        }
        for (int give = 0; give <= s.loans.get(loan).pages.size(); give++) {
            State t = s.copy();
            t.drop(t.loans.get(loan), give);
            int hearing = nextHearing();
            while (t.time < hearing) {
                t.tick();
            }
            if (t.claims.get(claim).state == 1) {
                return give;
            }
        }
        return -1;
    }

    int wouldAppeal(int fine) {
        Fine f = known(fine);
        return f.appealed || s.time - f.end > s.appeal ? -1 : f.now - s.appealed(f);
    }

    // ---- output and state

    int printProcess(int process) {
        Process p = in(s.processes, process);
        StringBuilder b = new StringBuilder(p.name + " " + p.record + " " + p.bar);
        for (Loan l : s.loans) {
            if (l.process == process && !l.pages.isEmpty()) {
                b.append(" " + l.pages.size() + "@" + l.due + (s.broken(l) ? "!" : ""));
            }
        }
        out = b.toString();
        return out.length();
    }

    int outputByte(int index) {
        return index >= 0 && index < out.length() ? out.charAt(index) : -1;
    }

    int saveState() {
        kept = s.copy();
        return s.time;
    }

    int restoreState() {
        lawful(kept != null);
        s = kept.copy();
        past.clear();
        return s.time;
    }
}
