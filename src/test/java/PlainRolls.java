import java.util.ArrayList;
import java.util.Comparator;
import java.util.List;
import java.util.NoSuchElementException;
import java.util.regex.Matcher;
import java.util.regex.Pattern;

/**
 * The document once more, as slowly and plainly as it reads: day by day, with whole copies of what
 * is told for UNDO and the IMAGE. ModelTest asks it and GuardRolls the same.
 */
public final class PlainRolls {
    static final int NONE = -1;
    static final int HIDDEN = -1000000000;
    static final String[] WORDS = {"age", "small", "grace", "floor", "rate", "fee", "cover"};
    static final int[] LEAST = {18, 0, 0, 0, 0, 0, 1};
    static final int[] GREATEST = {25, 999, 359, 9999, 200, 100, 4};
    static final int[] USUAL = {21, 40, 90, 100, 50, 25, 2};

    static final class Ward {
        int born;
        boolean settled;
        List<int[]> guardians = new ArrayList<>();
        List<int[]> closed = new ArrayList<>();

        Ward copy() {
            Ward w = new Ward();
            w.born = born;
            w.settled = settled;
            w.guardians.addAll(guardians);
            w.closed.addAll(closed);
            return w;
        }
    }

    static final class Told {
        List<Integer> bonds = new ArrayList<>();
        List<Ward> wards = new ArrayList<>();
        List<int[]> entries = new ArrayList<>();
        List<Integer> ratified = new ArrayList<>();
        List<int[]> orders = new ArrayList<>();

        Told copy() {
            Told t = new Told();
            t.bonds.addAll(bonds);
            for (Ward w : wards) {
                t.wards.add(w.copy());
            }
            t.entries.addAll(entries);
            t.ratified.addAll(ratified);
            t.orders.addAll(orders);
            return t;
        }
    }

    String tape = "";
    int[] rule = USUAL.clone();
    Told now = new Told();
    Told image = null;
    List<Told> ahead = new ArrayList<>();
    int[] refused = new int[5];
    int[] allowed = null;
    int[][] moneyRows = new int[4][];
    int[][] idleRows = new int[4][];

    // ---- rules

    public int feed(int a, int b, int c, int d, int e) {
        StringBuilder more = new StringBuilder(tape);
        for (int x : new int[] {a, b, c, d, e}) {
            for (int i = 3; i >= 0; i--) {
                int one = (x >> (8 * i)) & 0xff;
                if (one > 0) {
                    more.append((char) one);
                }
            }
        }
        if (more.length() > 200) {
            return NONE;
        }
        tape = more.toString();
        return tape.length();
    }

    public boolean end(int n) {
        if (n < 0 || n > tape.length()) {
            return false;
        }
        tape = tape.substring(0, n);
        return true;
    }

    /** Parts: words, numbers, ends of lines, other bytes; {from, sort, text}. */
    private List<Object[]> parts() {
        List<Object[]> parts = new ArrayList<>();
        Matcher m = Pattern.compile("([a-z]+)|([0-9]+)|(;)|( +)|([\\x00-\\xff])", Pattern.DOTALL)
                .matcher(tape);
        while (m.find()) {
            if (m.group(4) == null) {
                char sort = m.group(1) != null ? 'w' : m.group(2) != null ? 'n'
                        : m.group(3) != null ? ';' : '?';
                parts.add(new Object[] {m.start(), sort, m.group()});
            }
        }
        return parts;
    }

    private int parse(int[] into, List<String> seen) {
        List<Object[]> parts = parts();
        String due = "wn;";
        int which = -1;
        for (int i = 0; i < parts.size(); i++) {
            int from = (Integer) parts.get(i)[0];
            char sort = (Character) parts.get(i)[1];
            String text = (String) parts.get(i)[2];
            if (sort != due.charAt(i % 3)) {
                return from;
            }
            if (sort == 'w') {
                which = List.of(WORDS).indexOf(text);
                if (which < 0 || seen.contains(text)) {
                    return from;
                }
                seen.add(text);
            }
            if (sort == 'n') {
                if (text.length() > 4 || Integer.parseInt(text) < LEAST[which]
                        || Integer.parseInt(text) > GREATEST[which]) {
                    return from;
                }
                into[which] = Integer.parseInt(text);
            }
        }
        return parts.isEmpty() || parts.size() % 3 == 2 ? NONE : tape.length();
    }

    public int fault() {
        return parse(USUAL.clone(), new ArrayList<>());
    }

    public int rules() {
        int[] read = USUAL.clone();
        List<String> seen = new ArrayList<>();
        if (parse(read, seen) != NONE) {
            return NONE;
        }
        rule = read;
        now = new Told();
        image = null;
        ahead.clear();
        tape = "";
        changed();
        return seen.size();
    }

    public int rule(int what) {
        return what >= 0 && what <= 6 ? rule[what] : NONE;
    }

    // ---- told

    private void changed() {
        allowed = null;
        moneyRows = new int[4][];
        idleRows = new int[4][];
    }

    private int no(int status) {
        refused[status]++;
        return NONE;
    }

    private void act() {
        ahead.add(now.copy());
        if (ahead.size() > 10) {
            ahead.remove(0);
        }
        changed();
    }

    private boolean isWard(int w) {
        return w >= 0 && w < now.wards.size();
    }

    private boolean isGuardian(int g) {
        return g >= 0 && g < now.bonds.size();
    }

    private boolean in(int x, int least, int greatest) {
        return least <= x && x <= greatest;
    }

    private boolean shut(int w, int day) {
        return now.wards.get(w).settled || day / 360 < now.wards.get(w).closed.size();
    }

    public int guardian(int bond) {
        if (!in(bond, 0, 999999)) {
            return no(1);
        }
        if (now.bonds.size() == 3) {
            return no(4);
        }
        act();
        now.bonds.add(bond);
        return now.bonds.size() - 1;
    }

    public int bond(int guardian, int bond) {
        if (!isGuardian(guardian)) {
            return no(0);
        }
        if (!in(bond, 0, 999999)) {
            return no(1);
        }
        if (now.bonds.get(guardian) == bond) {
            return no(3);
        }
        act();
        return now.bonds.set(guardian, bond);
    }

    public int ward(int born, int guardian) {
        if (!isGuardian(guardian)) {
            return no(0);
        }
        if (!in(born, -9000, 3599)) {
            return no(1);
        }
        if (now.wards.size() == 4) {
            return no(4);
        }
        act();
        Ward w = new Ward();
        w.born = born;
        w.guardians.add(new int[] {0, guardian});
        now.wards.add(w);
        return now.wards.size() - 1;
    }

    public int change(int ward, int day, int guardian) {
        if (!isWard(ward) || !isGuardian(guardian)) {
            return no(0);
        }
        if (!in(day, 0, 3599)) {
            return no(1);
        }
        if (shut(ward, day)) {
            return no(2);
        }
        List<int[]> his = now.wards.get(ward).guardians;
        if (whose(ward, day) == guardian || his.get(his.size() - 1)[0] > day) {
            return no(3);
        }
        if (his.size() == 7) {
            return no(4);
        }
        act();
        now.wards.get(ward).guardians.add(new int[] {day, guardian});
        return now.wards.get(ward).guardians.size() - 1;
    }

    private int enter(boolean inBounds, int least, int... e) {
        if (!isWard(e[1])) {
            return no(0);
        }
        if (!in(e[2], 0, 3599) || !in(e[3], 1, 99999) || !inBounds) {
            return no(1);
        }
        if (shut(e[1], e[2])) {
            return no(2);
        }
        if (e[0] == 2 && money(e[1], e[2]) < e[3] || e[0] == 3 && out(e[1], e[2]) < e[3]) {
            return no(3);
        }
        if (now.entries.size() == 40) {
            return no(4);
        }
        act();
        now.entries.add(e);
        return now.entries.size() - 1;
    }

    public int receive(int ward, int day, int amount, int source) {
        return enter(in(source, 0, 3), 0, 0, ward, day, amount, source, NONE);
    }

    public int pay(int ward, int day, int amount, int kind, int voucher) {
        return enter(in(kind, 0, 3) && in(voucher, 0, 999), 0, 1, ward, day, amount, kind, voucher);
    }

    public int layOut(int ward, int day, int amount) {
        return enter(true, 0, 2, ward, day, amount, NONE, NONE);
    }

    public int callIn(int ward, int day, int amount) {
        return enter(true, 0, 3, ward, day, amount, NONE, NONE);
    }

    public int order(int ward, int kind, int first, int last, int amount) {
        if (!isWard(ward)) {
            return no(0);
        }
        if (!in(kind, 0, 1) || !in(first, 0, 3599) || !in(last, first, 3599)
                || !in(amount, 1, 99999)) {
            return no(1);
        }
        if (shut(ward, first)) {
            return no(2);
        }
        if (now.orders.size() == 12) {
            return no(4);
        }
        act();
        now.orders.add(new int[] {ward, kind, first, last, amount});
        return now.orders.size();
    }

    private boolean isPayment(int entry) {
        return in(entry, 0, now.entries.size() - 1) && now.entries.get(entry)[0] == 1;
    }

    public int ratify(int entry) {
        if (!isPayment(entry)) {
            return no(0);
        }
        if (shut(now.entries.get(entry)[1], now.entries.get(entry)[2])) {
            return no(2);
        }
        if (now.ratified.contains(entry)) {
            return no(3);
        }
        int disallowed = disallowed(entry);
        act();
        now.ratified.add(entry);
        return disallowed;
    }

    public int close(int ward) {
        if (!isWard(ward)) {
            return no(0);
        }
        if (now.wards.get(ward).settled) {
            return no(2);
        }
        int year = now.wards.get(ward).closed.size();
        if (year == 10) {
            return no(3);
        }
        int[] both = {charge(ward, year), commission(ward, year)};
        int answer = money(ward, year * 360 + 359) + both[0] - both[1];
        act();
        now.wards.get(ward).closed.add(both);
        return answer;
    }

    public int settle(int ward) {
        if (!isWard(ward)) {
            return no(0);
        }
        Ward w = now.wards.get(ward);
        if (w.settled) {
            return no(2);
        }
        int day = w.born + rule[0] * 360;
        if (day > 3599 || (day < 0 ? 0 : day / 360) >= w.closed.size()) {
            return no(3);
        }
        act();
        now.wards.get(ward).settled = true;
        return due(ward);
    }

    // ---- money

    private boolean good(int entry) {
        int voucher = now.entries.get(entry)[5];
        for (int i = 0; i < entry; i++) {
            if (now.entries.get(i)[0] == 1 && now.entries.get(i)[5] == voucher) {
                return false;
            }
        }
        return voucher > 0;
    }

    private boolean backed(int entry) {
        return good(entry) || now.entries.get(entry)[3] <= rule[1] || now.ratified.contains(entry);
    }

    private void allow() {
        allowed = new int[now.entries.size()];
        List<Integer> turn = new ArrayList<>();
        for (int i = 0; i < now.entries.size(); i++) {
            turn.add(i);
        }
        turn.sort(Comparator.comparingInt((Integer i) -> now.entries.get(i)[2])
                .thenComparingInt(i -> i));
        for (int at = 0; at < turn.size(); at++) {
            int i = turn.get(at);
            int[] e = now.entries.get(i);
            if (e[0] != 1) {
                continue;
            }
            if (now.ratified.contains(i)) {
                allowed[i] = e[3];
            } else if (!backed(i)) {
                allowed[i] = 0;
            } else if (e[4] >= 2) {
                allowed[i] = e[3];
            } else {
                int left = allowance(e[1], e[4], e[2] / 360);
                for (int before = 0; before < at; before++) {
                    int j = turn.get(before);
                    int[] f = now.entries.get(j);
                    if (f[0] == 1 && f[1] == e[1] && f[4] == e[4] && f[2] / 360 == e[2] / 360
                            && !now.ratified.contains(j)) {
                        left -= allowed[j];
                    }
                }
                allowed[i] = Math.min(left, e[3]);
            }
        }
    }

    private int allowed(int entry) {
        if (allowed == null) {
            allow();
        }
        return allowed[entry];
    }

    private int disallowed(int entry) {
        return now.entries.get(entry)[3] - allowed(entry);
    }

    private int moneyFresh(int ward, int day) {
        int sum = 0;
        for (int i = 0; i < now.entries.size(); i++) {
            int[] e = now.entries.get(i);
            if (e[1] == ward && e[2] <= day) {
                sum += e[0] == 0 || e[0] == 3 ? e[3] : e[0] == 1 ? -allowed(i) : -e[3];
            }
        }
        List<int[]> closed = now.wards.get(ward).closed;
        for (int y = 0; y < closed.size(); y++) {
            if (y * 360 + 359 < day) {
                sum += closed.get(y)[0] - closed.get(y)[1];
            }
        }
        return sum;
    }

    private int[] moneyRow(int ward) {
        if (moneyRows[ward] == null) {
            moneyRows[ward] = new int[3600];
            for (int d = 0; d < 3600; d++) {
                moneyRows[ward][d] = moneyFresh(ward, d);
            }
        }
        return moneyRows[ward];
    }

    private int idleIn(int[] row, int day) {
        int least = row[day];
        for (int d = day - rule[2]; d < day; d++) {
            least = Math.min(least, d < 0 ? 0 : row[d]);
        }
        return Math.max(0, least - rule[3]);
    }

    private int[] idleRow(int ward) {
        if (idleRows[ward] == null) {
            idleRows[ward] = new int[3600];
            for (int d = 0; d < 3600; d++) {
                idleRows[ward][d] = idleIn(moneyRow(ward), d);
            }
        }
        return idleRows[ward];
    }

    public int money(int ward, int day) {
        return isWard(ward) && in(day, 0, 3599) ? moneyFresh(ward, day) : HIDDEN;
    }

    public int out(int ward, int day) {
        if (!isWard(ward) || !in(day, 0, 3599)) {
            return HIDDEN;
        }
        int sum = 0;
        for (int[] e : now.entries) {
            if (e[1] == ward && e[2] <= day) {
                sum += e[0] == 2 ? e[3] : e[0] == 3 ? -e[3] : 0;
            }
        }
        return sum;
    }

    public int idle(int ward, int day) {
        return isWard(ward) && in(day, 0, 3599) ? idleIn(moneyRow(ward), day) : HIDDEN;
    }

    private int chargeIn(int[] row, int year) {
        long sum = 0;
        for (int d = year * 360; d < year * 360 + 360; d++) {
            sum += idleIn(row, d);
        }
        return (int) (sum * rule[4] / 360000);
    }

    public int charge(int ward, int year) {
        if (!isWard(ward) || !in(year, 0, 9)) {
            return HIDDEN;
        }
        List<int[]> closed = now.wards.get(ward).closed;
        return year < closed.size() ? closed.get(year)[0] : chargeIn(moneyRow(ward), year);
    }

    private int sum(int ward, int first, int last, int sort) {
        int sum = 0;
        for (int[] e : now.entries) {
            sum += e[0] == sort && e[1] == ward && in(e[2], first, last) ? e[3] : 0;
        }
        return sum;
    }

    private int sumAllowed(int ward, int first, int last) {
        int sum = 0;
        for (int i = 0; i < now.entries.size(); i++) {
            int[] e = now.entries.get(i);
            sum += e[0] == 1 && e[1] == ward && in(e[2], first, last) ? allowed(i) : 0;
        }
        return sum;
    }

    public int commission(int ward, int year) {
        if (!isWard(ward) || !in(year, 0, 9)) {
            return HIDDEN;
        }
        List<int[]> closed = now.wards.get(ward).closed;
        return year < closed.size() ? closed.get(year)[1]
                : (int) ((long) sum(ward, year * 360, year * 360 + 359, 0) * rule[5] / 1000);
    }

    public int allowance(int ward, int kind, int year) {
        if (!isWard(ward) || !in(kind, 0, 1) || !in(year, 0, 9)) {
            return HIDDEN;
        }
        int sum = 0;
        for (int[] o : now.orders) {
            if (o[0] == ward && o[1] == kind) {
                long days = 0;
                for (int d = o[2]; d <= o[3]; d++) {
                    days += d / 360 == year ? 1 : 0;
                }
                sum += (int) (o[4] * days / 360);
            }
        }
        return sum;
    }

    public int entry(int entry, int what) {
        if (!in(entry, 0, now.entries.size() - 1) || !in(what, 0, 5)) {
            throw new NoSuchElementException();
        }
        return now.entries.get(entry)[what];
    }

    public int payment(int entry, int what) {
        if (!isPayment(entry) || !in(what, 0, 4)) {
            return NONE;
        }
        int[] all = {allowed(entry), disallowed(entry), good(entry) ? 1 : 0, backed(entry) ? 1 : 0,
            now.ratified.contains(entry) ? 1 : 0};
        return all[what];
    }

    public int account(int ward, int year, int what) {
        if (!isWard(ward) || !in(year, 0, 9) || !in(what, 0, 7)) {
            return HIDDEN;
        }
        int first = year * 360;
        int last = first + 359;
        List<int[]> closed = now.wards.get(ward).closed;
        int brought = year > 0 && year <= closed.size()
                ? closed.get(year - 1)[0] - closed.get(year - 1)[1] : 0;
        int[] all = {year == 0 ? 0 : money(ward, first - 1) + brought, sum(ward, first, last, 0),
            sumAllowed(ward, first, last),
            sum(ward, first, last, 1) - sumAllowed(ward, first, last),
            sum(ward, first, last, 2) - sum(ward, first, last, 3), charge(ward, year),
            commission(ward, year),
            money(ward, last) + charge(ward, year) - commission(ward, year)};
        return all[what];
    }

    public int month(int ward, int month, int what) {
        if (!isWard(ward) || !in(month, 0, 119) || !in(what, 0, 3)) {
            return HIDDEN;
        }
        int first = month * 30;
        int least = Integer.MAX_VALUE;
        int greatest = Integer.MIN_VALUE;
        for (int d = first; d < first + 30; d++) {
            least = Math.min(least, moneyRow(ward)[d]);
            greatest = Math.max(greatest, moneyRow(ward)[d]);
        }
        int[] all = {sum(ward, first, first + 29, 0), sumAllowed(ward, first, first + 29), least,
            greatest};
        return all[what];
    }

    public int extreme(int ward, int year, int what) {
        if (!isWard(ward) || !in(year, 0, 9) || !in(what, 0, 3)) {
            return HIDDEN;
        }
        int[] row = moneyRow(ward);
        int[] all = {year * 360, year * 360, 0, 0};
        for (int d = year * 360; d < year * 360 + 360; d++) {
            all[0] = row[d] > row[all[0]] ? d : all[0];
            all[1] = row[d] < row[all[1]] ? d : all[1];
            all[2] += row[d] < 0 ? 1 : 0;
            all[3] += idleIn(row, d) > 0 ? 1 : 0;
        }
        return all[what];
    }

    public int mean(int ward) {
        if (!isWard(ward) || now.wards.get(ward).closed.isEmpty()) {
            return HIDDEN;
        }
        int years = now.wards.get(ward).closed.size();
        return (sum(ward, 0, years * 360 - 1, 0) - sumAllowed(ward, 0, years * 360 - 1)) / years;
    }

    public int lasts(int ward, int day) {
        if (!isWard(ward) || !in(day, 0, 3599) || mean(ward) == HIDDEN) {
            return HIDDEN;
        }
        long estate = money(ward, day) + out(ward, day);
        if (estate < 0) {
            return NONE;
        }
        int n = 0;
        for (int i = 0; i <= 100; i++) {
            n = estate + (long) i * mean(ward) >= 0 ? i : n;
        }
        return n;
    }

    // ---- guardians

    public int whose(int ward, int day) {
        if (!isWard(ward) || !in(day, 0, 3599)) {
            return NONE;
        }
        int his = NONE;
        for (int[] g : now.wards.get(ward).guardians) {
            his = g[0] <= day ? g[1] : his;
        }
        return his;
    }

    private int[] needs(int guardian, int day) {
        long best = Long.MIN_VALUE;
        int on = 0;
        for (int d = 0; d <= day; d++) {
            long sum = 0;
            for (int w = 0; w < now.wards.size(); w++) {
                sum += whose(w, d) == guardian ? moneyRow(w)[d] + out(w, d) : 0;
            }
            if (sum > best) {
                best = sum;
                on = d;
            }
        }
        int needed = best < 0 ? 0 : (int) best * rule[6];
        return new int[] {needed, Math.max(0, needed - now.bonds.get(guardian)),
            best < 0 ? NONE : on};
    }

    public int bonded(int guardian, int day, int what) {
        return isGuardian(guardian) && in(day, 0, 3599) && in(what, 0, 2)
                ? needs(guardian, day)[what] : HIDDEN;
    }

    public int liable(int guardian, int what) {
        if (!isGuardian(guardian) || !in(what, 0, 2)) {
            return HIDDEN;
        }
        int[] all = new int[3];
        for (int i = 0; i < now.entries.size(); i++) {
            int[] e = now.entries.get(i);
            all[0] += e[0] == 1 && whose(e[1], e[2]) == guardian ? disallowed(i) : 0;
        }
        for (int w = 0; w < now.wards.size(); w++) {
            List<int[]> closed = now.wards.get(w).closed;
            for (int y = 0; y < closed.size(); y++) {
                long whole = 0;
                long his = 0;
                for (int d = y * 360; d < y * 360 + 360; d++) {
                    whole += idleRow(w)[d];
                    his += whose(w, d) == guardian ? idleRow(w)[d] : 0;
                }
                all[1] += whole == 0 ? 0 : (int) (closed.get(y)[0] * his / whole);
                all[2] += whose(w, y * 360 + 359) == guardian ? closed.get(y)[1] : 0;
            }
        }
        return all[what];
    }

    private int kth(List<Integer> list, int k) {
        return k == NONE ? list.size() : in(k, 0, list.size() - 1) ? list.get(k) : NONE;
    }

    public int dispute(int k) {
        List<Integer> list = new ArrayList<>();
        for (int i = 0; i < now.entries.size(); i++) {
            if (isPayment(i) && disallowed(i) > 0) {
                list.add(i);
            }
        }
        list.sort(Comparator.comparingInt((Integer i) -> -disallowed(i)).thenComparingInt(i -> i));
        return kth(list, k);
    }

    public int holder(int voucher) {
        for (int i = 0; i < now.entries.size(); i++) {
            if (isPayment(i) && good(i) && now.entries.get(i)[5] == voucher) {
                return i;
            }
        }
        return NONE;
    }

    public int again(int k) {
        List<Integer> list = new ArrayList<>();
        for (int i = 0; i < now.entries.size(); i++) {
            if (isPayment(i) && now.entries.get(i)[5] > 0 && !good(i)) {
                list.add(i);
            }
        }
        return kth(list, k);
    }

    public int needed(int ward, int x) {
        if (!isWard(ward) || !in(x, 0, 9999999)) {
            return HIDDEN;
        }
        List<Integer> his = new ArrayList<>();
        for (int i = 0; i < now.entries.size(); i++) {
            if (isPayment(i) && now.entries.get(i)[1] == ward) {
                his.add(disallowed(i));
            }
        }
        his.sort(null);
        for (int n = 0; n < his.size(); n++) {
            int sum = 0;
            for (int i = 0; i < his.size() - n; i++) {
                sum += his.get(i);
            }
            if (sum <= x) {
                return n;
            }
        }
        return his.size();
    }

    public int ranked(int day, int k) {
        if (!in(day, 0, 3599)) {
            return NONE;
        }
        List<int[]> list = new ArrayList<>();
        for (int g = 0; g < now.bonds.size(); g++) {
            list.add(new int[] {-needs(g, day)[1], now.bonds.get(g), g});
        }
        list.sort(Comparator.comparingInt((int[] x) -> x[0]).thenComparingInt(x -> x[1])
                .thenComparingInt(x -> x[2]));
        return in(k, 0, list.size() - 1) ? list.get(k)[2] : NONE;
    }

    public int missing(int k) {
        List<Integer> list = new ArrayList<>();
        for (int v = 1; v <= 999; v++) {
            boolean higher = false;
            boolean has = false;
            for (int[] e : now.entries) {
                higher |= e[0] == 1 && e[5] > v;
                has |= e[0] == 1 && e[5] == v;
            }
            if (higher && !has) {
                list.add(v);
            }
        }
        return kth(list, k);
    }

    private int savedOn(int ward, int day, int amount) {
        int[] row = moneyRow(ward).clone();
        int before = chargeIn(row, day / 360);
        for (int d = day; d < 3600; d++) {
            row[d] -= amount;
        }
        return before - chargeIn(row, day / 360);
    }

    public int saved(int ward, int day, int amount) {
        if (!isWard(ward) || !in(day, 0, 3599) || !in(amount, 1, 99999)
                || day / 360 < now.wards.get(ward).closed.size()) {
            return HIDDEN;
        }
        return savedOn(ward, day, amount);
    }

    public int bestDay(int ward, int year, int amount, int what) {
        if (!isWard(ward) || !in(year, 0, 9) || !in(amount, 1, 99999) || !in(what, 0, 1)
                || year < now.wards.get(ward).closed.size()) {
            return HIDDEN;
        }
        int best = NONE;
        int most = -1;
        for (int d = year * 360; d < year * 360 + 360; d++) {
            int saved = savedOn(ward, d, amount);
            if (saved > most) {
                most = saved;
                best = d;
            }
        }
        return what == 0 ? best : most;
    }

    public int ofAge(int ward) {
        return isWard(ward) ? now.wards.get(ward).born + rule[0] * 360 : HIDDEN;
    }

    public int due(int ward) {
        return isWard(ward) ? money(ward, 3599) + out(ward, 3599) : HIDDEN;
    }

    public int wardOf(int ward, int what) {
        if (!isWard(ward) || !in(what, 0, 3)) {
            return HIDDEN;
        }
        Ward w = now.wards.get(ward);
        int[] all = {w.born, w.closed.size(), w.settled ? 1 : 0, w.guardians.size() - 1};
        return all[what];
    }

    // ---- more

    public int written(int k) {
        List<String> lines = new ArrayList<>();
        for (int i = 0; i < 7; i++) {
            lines.add(WORDS[i] + " " + rule[i]);
        }
        String text = String.join(";", lines);
        return k == NONE ? text.length() : in(k, 0, text.length() - 1) ? text.charAt(k) : NONE;
    }

    public int undo() {
        if (ahead.isEmpty()) {
            return NONE;
        }
        now = ahead.remove(ahead.size() - 1);
        changed();
        return ahead.size();
    }

    public int image() {
        image = now.copy();
        return now.entries.size();
    }

    public int back() {
        if (image == null) {
            return NONE;
        }
        now = image.copy();
        ahead.clear();
        changed();
        return now.entries.size();
    }

    public int status(int what) {
        return in(what, 0, 4) ? refused[what] : NONE;
    }

    public int most(int day, int what) {
        if (!in(day, 0, 3599) || !in(what, 0, 2)) {
            return NONE;
        }
        int best = NONE;
        int size = 0;
        for (int i = 0; i < (what == 2 ? now.bonds.size() : now.wards.size()); i++) {
            int his = what == 0 ? money(i, day) + out(i, day) : what == 1 ? idle(i, day)
                    : needs(i, day)[1];
            if (best == NONE || his > size) {
                best = i;
                size = his;
            }
        }
        return best;
    }

    public int count(int what) {
        int[] all = {tape.length(), ahead.size(), now.wards.size(), now.bonds.size(),
            now.entries.size(), now.orders.size()};
        return in(what, 0, 5) ? all[what] : NONE;
    }
}
