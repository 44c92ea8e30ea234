import java.util.Arrays;
import java.util.NoSuchElementException;

/**
 * Guardians' accounts of their wards, as ../shared/DOC.md tells them. Words in capitals are the
 * document's own.
 */
public final class GuardRolls {
    public static final int NONE = -1;
    public static final int HIDDEN = -1000000000;

    private static final int DAYS = 3600;
    private static final int YEAR = 360;
    private static final int YEARS = 10;
    private static final int MONTH = 30;
    private static final int MONTHS = 120;
    private static final int EARLIEST_BIRTH = -9000;

    private static final int TAPE_BYTES = 200;
    private static final int MAX_DIGITS = 4;
    private static final int MAX_GUARDIANS = 3;
    private static final int MAX_WARDS = 4;
    private static final int MAX_CHANGES = 6;
    private static final int MAX_ENTRIES = 40;
    private static final int MAX_ORDERS = 12;
    private static final int MAX_UNDO = 10;
    private static final int MAX_AMOUNT = 99999;
    private static final int MAX_BOND = 999999;
    private static final int MAX_VOUCHER = 999;
    private static final int MAX_LASTING = 100;
    private static final int MAX_NEED = 9999999;
    private static final int ALLOWED_KINDS = 2;
    private static final int KINDS = 4;

    // The RULES, by the numbers that rule() has for them.
    private static final Rule[] RULES = Rule.values();
    private static final int AGE = 0;
    private static final int SMALL = 1;
    private static final int GRACE = 2;
    private static final int FLOOR = 3;
    private static final int RATE = 4;
    private static final int FEE = 5;
    private static final int COVER = 6;

    // The sorts of ENTRIES, by the numbers that entry() has for them.
    private static final int RECEIPT = 0;
    private static final int PAYMENT = 1;
    private static final int LAID_OUT = 2;
    private static final int CALLED_IN = 3;

    // What an ENTRY adds to, by the numbers that account() has for them.
    private static final int RECEIVED = 1;
    private static final int ALLOWED = 2;
    private static final int DISALLOWED = 3;
    private static final int PLACED = 4;

    // Why an ACT is refused, by the numbers that status() has for them.
    private static final int UNKNOWN = 0;
    private static final int BOUNDS = 1;
    private static final int SHUT = 2;
    private static final int CANNOT = 3;
    private static final int FULL = 4;
    private static final int REASONS = 5;

    // The ACTS that can be UNDONE.
    private static final int GUARDIAN_ACT = 0;
    private static final int BOND_ACT = 1;
    private static final int WARD_ACT = 2;
    private static final int CHANGE_ACT = 3;
    private static final int ENTRY_ACT = 4;
    private static final int ORDER_ACT = 5;
    private static final int RATIFY_ACT = 6;
    private static final int CLOSE_ACT = 7;
    private static final int SETTLE_ACT = 8;

    private final Tape tape = new Tape();
    private final RuleReader reader = new RuleReader();
    private final Book book = new Book();
    private final Book kept = new Book();
    private boolean hasImage = false;
    private final Acts acts = new Acts();
    private final int[] refusals = new int[REASONS];
    private final YearView view = new YearView();
    private final Peak peak = new Peak();
    private final int[] row = new int[MAX_ENTRIES];

    public GuardRolls() {
    }

    // ---- rules

    public int feed(int a, int b, int c, int d, int e) {
        int before = tape.length;
        boolean fits = tape.take(a) && tape.take(b) && tape.take(c) && tape.take(d) && tape.take(e);
        if (!fits) {
            tape.length = before;
            return NONE;
        }
        return tape.length;
    }

    public boolean end(int n) {
        if (n < 0 || n > tape.length) {
            return false;
        }
        tape.length = n;
        return true;
    }

    public int fault() {
        return reader.firstFault(tape);
    }

    public int rules() {
        if (reader.firstFault(tape) != NONE) {
            return NONE;
        }
        book.beginAnew(reader.told);
        acts.forgetAll();
        hasImage = false;
        tape.length = 0;
        return reader.lines;
    }

    public int rule(int what) {
        return what < 0 || what >= RULES.length ? NONE : book.rule[what];
    }

    // ---- told

    public int guardian(int bond) {
        if (!isBond(bond)) {
            return refuse(BOUNDS);
        }
        if (book.guardians >= MAX_GUARDIANS) {
            return refuse(FULL);
        }
        book.bonds[book.guardians] = bond;
        book.guardians++;
        acts.note(GUARDIAN_ACT, 0, 0);
        return book.guardians - 1;
    }

    public int bond(int guardian, int bond) {
        if (!book.hasGuardian(guardian)) {
            return refuse(UNKNOWN);
        }
        if (!isBond(bond)) {
            return refuse(BOUNDS);
        }
        int before = book.bonds[guardian];
        if (before == bond) {
            return refuse(CANNOT);
        }
        book.bonds[guardian] = bond;
        acts.note(BOND_ACT, guardian, before);
        return before;
    }

    public int ward(int born, int guardian) {
        if (!book.hasGuardian(guardian)) {
            return refuse(UNKNOWN);
        }
        if (born < EARLIEST_BIRTH || born >= DAYS) {
            return refuse(BOUNDS);
        }
        if (book.wards >= MAX_WARDS) {
            return refuse(FULL);
        }
        book.ward[book.wards].begin(born, guardian);
        book.wards++;
        acts.note(WARD_ACT, 0, 0);
        return book.wards - 1;
    }

    public int change(int ward, int day, int guardian) {
        if (!book.hasWard(ward) || !book.hasGuardian(guardian)) {
            return refuse(UNKNOWN);
        }
        if (!isDay(day)) {
            return refuse(BOUNDS);
        }
        Ward changing = book.ward[ward];
        if (changing.isShutOn(day)) {
            return refuse(SHUT);
        }
        if (changing.guardianOn(day) == guardian || changing.changesAfter(day)) {
            return refuse(CANNOT);
        }
        if (changing.changes >= MAX_CHANGES) {
            return refuse(FULL);
        }
        changing.goTo(day, guardian);
        acts.note(CHANGE_ACT, ward, 0);
        return changing.changes;
    }

    public int receive(int ward, int day, int amount, int source) {
        boolean inBounds = isDay(day) && isAmount(amount) && source >= 0 && source < KINDS;
        int reason = entryRefusal(ward, day, inBounds);
        if (reason != NONE) {
            return refuse(reason);
        }
        return enter(RECEIPT, ward, day, amount, source, NONE);
    }

    public int pay(int ward, int day, int amount, int kind, int voucher) {
        boolean inBounds = isDay(day) && isAmount(amount) && kind >= 0 && kind < KINDS
                && voucher >= 0 && voucher <= MAX_VOUCHER;
        int reason = entryRefusal(ward, day, inBounds);
        if (reason != NONE) {
            return refuse(reason);
        }
        return enter(PAYMENT, ward, day, amount, kind, voucher);
    }

    public int layOut(int ward, int day, int amount) {
        int reason = entryRefusal(ward, day, isDay(day) && isAmount(amount));
        if (reason != NONE) {
            return refuse(reason);
        }
        if (book.moneyOn(ward, day) < amount) {
            return refuse(CANNOT);
        }
        return enter(LAID_OUT, ward, day, amount, NONE, NONE);
    }

    public int callIn(int ward, int day, int amount) {
        int reason = entryRefusal(ward, day, isDay(day) && isAmount(amount));
        if (reason != NONE) {
            return refuse(reason);
        }
        if (book.outOn(ward, day) < amount) {
            return refuse(CANNOT);
        }
        return enter(CALLED_IN, ward, day, amount, NONE, NONE);
    }

    public int order(int ward, int kind, int first, int last, int amount) {
        if (!book.hasWard(ward)) {
            return refuse(UNKNOWN);
        }
        if (kind < 0 || kind >= ALLOWED_KINDS || !isDay(first) || !isDay(last) || last < first
                || !isAmount(amount)) {
            return refuse(BOUNDS);
        }
        if (book.ward[ward].isShutOn(first)) {
            return refuse(SHUT);
        }
        if (book.orders >= MAX_ORDERS) {
            return refuse(FULL);
        }
        book.order[book.orders].tell(ward, kind, first, last, amount);
        book.orders++;
        book.reckon();
        acts.note(ORDER_ACT, 0, 0);
        return book.orders;
    }

    public int ratify(int entry) {
        if (!book.isPayment(entry)) {
            return refuse(UNKNOWN);
        }
        Entry payment = book.entry[entry];
        if (book.ward[payment.ward].isShutOn(payment.day)) {
            return refuse(SHUT);
        }
        if (payment.ratified) {
            return refuse(CANNOT);
        }
        int disallowed = payment.part(DISALLOWED);
        payment.ratified = true;
        book.reckon();
        acts.note(RATIFY_ACT, entry, 0);
        return disallowed;
    }

    public int close(int ward) {
        if (!book.hasWard(ward)) {
            return refuse(UNKNOWN);
        }
        Ward closing = book.ward[ward];
        if (closing.settled) {
            return refuse(SHUT);
        }
        int year = closing.closed;
        if (year >= YEARS) {
            return refuse(CANNOT);
        }
        closing.charge[year] = chargeOf(ward, year);
        closing.commission[year] = commissionOf(ward, year);
        closing.closed++;
        acts.note(CLOSE_ACT, ward, 0);
        return book.moneyOn(ward, lastDay(year)) + closing.broughtBy(year);
    }

    public int settle(int ward) {
        if (!book.hasWard(ward)) {
            return refuse(UNKNOWN);
        }
        Ward settling = book.ward[ward];
        if (settling.settled) {
            return refuse(SHUT);
        }
        if (!settling.canSettle(book.rule[AGE])) {
            return refuse(CANNOT);
        }
        settling.settled = true;
        acts.note(SETTLE_ACT, ward, 0);
        return book.estateOn(ward, DAYS - 1);
    }

    // ---- money

    public int money(int ward, int day) {
        return book.hasWard(ward) && isDay(day) ? book.moneyOn(ward, day) : HIDDEN;
    }

    public int out(int ward, int day) {
        return book.hasWard(ward) && isDay(day) ? book.outOn(ward, day) : HIDDEN;
    }

    public int idle(int ward, int day) {
        return book.hasWard(ward) && isDay(day) ? idleOn(ward, day) : HIDDEN;
    }

    public int charge(int ward, int year) {
        return book.hasWard(ward) && isYear(year) ? chargeOf(ward, year) : HIDDEN;
    }

    public int commission(int ward, int year) {
        return book.hasWard(ward) && isYear(year) ? commissionOf(ward, year) : HIDDEN;
    }

    public int allowance(int ward, int kind, int year) {
        if (!book.hasWard(ward) || kind < 0 || kind >= ALLOWED_KINDS || !isYear(year)) {
            return HIDDEN;
        }
        return book.allowanceOf(ward, kind, year);
    }

    public int entry(int entry, int what) throws NoSuchElementException {
        if (entry < 0 || entry >= book.entries) {
            throw new NoSuchElementException("no such ENTRY");
        }
        Entry told = book.entry[entry];
        switch (what) {
            case 0:
                return told.sort;
            case 1:
                return told.ward;
            case 2:
                return told.day;
            case 3:
                return told.amount;
            case 4:
                return told.kind;
            case 5:
                return told.voucher;
            default:
                throw new NoSuchElementException("no such what");
        }
    }

    public int payment(int entry, int what) {
        if (!book.isPayment(entry)) {
            return NONE;
        }
        Entry told = book.entry[entry];
        switch (what) {
            case 0:
                return told.part(ALLOWED);
            case 1:
                return told.part(DISALLOWED);
            case 2:
                return told.good ? 1 : 0;
            case 3:
                return told.isBacked(book.rule[SMALL]) ? 1 : 0;
            case 4:
                return told.ratified ? 1 : 0;
            default:
                return NONE;
        }
    }

    public int account(int ward, int year, int what) {
        if (!book.hasWard(ward) || !isYear(year)) {
            return HIDDEN;
        }
        switch (what) {
            case 0:
                return carriedInto(ward, year);
            case RECEIVED:
            case ALLOWED:
            case DISALLOWED:
            case PLACED:
                return book.partOf(ward, firstDay(year), lastDay(year), what);
            case 5:
                return chargeOf(ward, year);
            case 6:
                return commissionOf(ward, year);
            case 7:
                return book.moneyOn(ward, lastDay(year)) + chargeOf(ward, year)
                        - commissionOf(ward, year);
            default:
                return HIDDEN;
        }
    }

    public int month(int ward, int month, int what) {
        if (!book.hasWard(ward) || month < 0 || month >= MONTHS) {
            return HIDDEN;
        }
        int first = month * MONTH;
        int last = first + MONTH - 1;
        switch (what) {
            case 0:
                return book.partOf(ward, first, last, RECEIVED);
            case 1:
                return book.partOf(ward, first, last, ALLOWED);
            case 2:
            case 3:
                view.look(book, ward, first / YEAR);
                return view.moneyOfDay(view.extremeDay(first % YEAR, last % YEAR, what == 3));
            default:
                return HIDDEN;
        }
    }

    public int extreme(int ward, int year, int what) {
        if (!book.hasWard(ward) || !isYear(year)) {
            return HIDDEN;
        }
        view.look(book, ward, year);
        switch (what) {
            case 0:
                return firstDay(year) + view.extremeDay(0, YEAR - 1, true);
            case 1:
                return firstDay(year) + view.extremeDay(0, YEAR - 1, false);
            case 2:
                return view.daysBelowNought();
            case 3:
                return view.daysIdle();
            default:
                return HIDDEN;
        }
    }

    public int mean(int ward) {
        return book.hasWard(ward) ? book.meanOf(ward) : HIDDEN;
    }

    public int lasts(int ward, int day) {
        if (!book.hasWard(ward) || !isDay(day)) {
            return HIDDEN;
        }
        int mean = book.meanOf(ward);
        if (mean == HIDDEN) {
            return HIDDEN;
        }
        int estate = book.estateOn(ward, day);
        if (estate < 0) {
            return NONE;
        }
        return mean >= 0 ? MAX_LASTING : Math.min(MAX_LASTING, estate / -mean);
    }

    // ---- guardians

    public int whose(int ward, int day) {
        return book.hasWard(ward) && isDay(day) ? book.ward[ward].guardianOn(day) : NONE;
    }

    public int bonded(int guardian, int day, int what) {
        if (!book.hasGuardian(guardian) || !isDay(day)) {
            return HIDDEN;
        }
        switch (what) {
            case 0:
                peak.seek(book, guardian, day);
                return Math.max(0, peak.sum) * book.rule[COVER];
            case 1:
                return shortOf(guardian, day);
            case 2:
                peak.seek(book, guardian, day);
                return peak.sum < 0 ? NONE : peak.day;
            default:
                return HIDDEN;
        }
    }

    public int liable(int guardian, int what) {
        if (!book.hasGuardian(guardian) || what < 0 || what > 2) {
            return HIDDEN;
        }
        if (what == 0) {
            return book.disallowedUnder(guardian);
        }
        int sum = 0;
        for (int w = 0; w < book.wards; w++) {
            for (int year = 0; year < book.ward[w].closed; year++) {
                sum += what == 1 ? chargePart(guardian, w, year) : commissionTo(guardian, w, year);
            }
        }
        return sum;
    }

    public int dispute(int k) {
        return fromRow(book.fillDisputes(NONE, row), k);
    }

    public int holder(int voucher) {
        return voucher < 1 || voucher > MAX_VOUCHER ? NONE : book.holderOf(voucher);
    }

    public int again(int k) {
        return fromRow(book.fillSpoilt(row), k);
    }

    public int needed(int ward, int x) {
        if (!book.hasWard(ward) || x < 0 || x > MAX_NEED) {
            return HIDDEN;
        }
        // The largest ones first: no other choice of as many takes away more.
        int left = book.partOf(ward, 0, DAYS - 1, DISALLOWED);
        int disputes = book.fillDisputes(ward, row);
        int taken = 0;
        while (taken < disputes && left > x) {
            left -= book.entry[row[taken]].part(DISALLOWED);
            taken++;
        }
        return taken;
    }

    public int ranked(int day, int k) {
        if (!isDay(day) || k < 0 || k >= book.guardians) {
            return NONE;
        }
        for (int g = 0; g < book.guardians; g++) {
            row[g] = shortOf(g, day);
        }
        for (int g = 0; g < book.guardians; g++) {
            int ahead = 0;
            for (int other = 0; other < book.guardians; other++) {
                if (other != g && ranksAhead(other, g)) {
                    ahead++;
                }
            }
            if (ahead == k) {
                return g;
            }
        }
        return NONE;
    }

    public int missing(int k) {
        int used = book.fillVouchers(row);
        int count = used == 0 ? 0 : row[used - 1] - used;
        if (k == NONE) {
            return count;
        }
        if (k < 0 || k >= count) {
            return NONE;
        }
        int voucher = k + 1;
        for (int i = 0; i < used && row[i] <= voucher; i++) {
            voucher++;
        }
        return voucher;
    }

    public int saved(int ward, int day, int amount) {
        if (!book.hasWard(ward) || !isDay(day) || !isAmount(amount)
                || day / YEAR < book.ward[ward].closed) {
            return HIDDEN;
        }
        return savedBy(ward, day, amount);
    }

    public int bestDay(int ward, int year, int amount, int what) {
        if (!book.hasWard(ward) || !isYear(year) || !isAmount(amount) || what < 0 || what > 1
                || year < book.ward[ward].closed) {
            return HIDDEN;
        }
        // What is LAID OUT earlier lowers MONEY on all the same DAYS and on more of them, so
        // that no later DAY of the YEAR can save more than its first one.
        int best = firstDay(year);
        return what == 0 ? best : savedBy(ward, best, amount);
    }

    public int ofAge(int ward) {
        return book.hasWard(ward) ? book.ward[ward].dayOfAge(book.rule[AGE]) : HIDDEN;
    }

    public int due(int ward) {
        return book.hasWard(ward) ? book.estateOn(ward, DAYS - 1) : HIDDEN;
    }

    public int wardOf(int ward, int what) {
        if (!book.hasWard(ward)) {
            return HIDDEN;
        }
        Ward told = book.ward[ward];
        switch (what) {
            case 0:
                return told.born;
            case 1:
                return told.closed;
            case 2:
                return told.settled ? 1 : 0;
            case 3:
                return told.changes;
            default:
                return HIDDEN;
        }
    }

    // ---- more

    public int written(int k) {
        StringBuilder text = book.rulesAsText();
        if (k == NONE) {
            return text.length();
        }
        return k < 0 || k >= text.length() ? NONE : text.charAt(k);
    }

    public int undo() {
        if (acts.count == 0) {
            return NONE;
        }
        acts.count--;
        takeBack(acts.sort[acts.count], acts.number[acts.count], acts.before[acts.count]);
        book.reckon();
        return acts.count;
    }

    public int image() {
        kept.become(book);
        hasImage = true;
        return kept.entries;
    }

    public int back() {
        if (!hasImage) {
            return NONE;
        }
        book.become(kept);
        acts.forgetAll();
        return book.entries;
    }

    public int status(int what) {
        return what < 0 || what >= REASONS ? NONE : refusals[what];
    }

    public int most(int day, int what) {
        if (!isDay(day) || what < 0 || what > 2) {
            return NONE;
        }
        int best = NONE;
        int greatest = 0;
        int all = what == 2 ? book.guardians : book.wards;
        for (int i = 0; i < all; i++) {
            int size = sizeOf(i, day, what);
            if (best == NONE || size > greatest) {
                best = i;
                greatest = size;
            }
        }
        return best;
    }

    public int count(int what) {
        switch (what) {
            case 0:
                return tape.length;
            case 1:
                return acts.count;
            case 2:
                return book.wards;
            case 3:
                return book.guardians;
            case 4:
                return book.entries;
            case 5:
                return book.orders;
            default:
                return NONE;
        }
    }

    // ---- behind the face

    private static boolean isDay(int day) {
        return day >= 0 && day < DAYS;
    }

    private static boolean isYear(int year) {
        return year >= 0 && year < YEARS;
    }

    private static boolean isAmount(int amount) {
        return amount >= 1 && amount <= MAX_AMOUNT;
    }

    private static boolean isBond(int bond) {
        return bond >= 0 && bond <= MAX_BOND;
    }

    private static int firstDay(int year) {
        return year * YEAR;
    }

    private static int lastDay(int year) {
        return year * YEAR + YEAR - 1;
    }

    private int refuse(int reason) {
        refusals[reason]++;
        return NONE;
    }

    /**
     * Why no ENTRY of that WARD on that DAY can come, NONE if one can. Whether there is room comes
     * in enter(), as it stands behind what only some sorts of ENTRIES ask.
     */
    private int entryRefusal(int ward, int day, boolean inBounds) {
        if (!book.hasWard(ward)) {
            return UNKNOWN;
        }
        if (!inBounds) {
            return BOUNDS;
        }
        return book.ward[ward].isShutOn(day) ? SHUT : NONE;
    }

    private int enter(int sort, int ward, int day, int amount, int kind, int voucher) {
        if (book.entries >= MAX_ENTRIES) {
            return refuse(FULL);
        }
        boolean good = voucher > 0 && book.holderOf(voucher) == NONE;
        book.entry[book.entries].tell(sort, ward, day, amount, kind, voucher, good);
        book.entries++;
        book.reckon();
        acts.note(ENTRY_ACT, 0, 0);
        return book.entries - 1;
    }

    private void takeBack(int act, int number, int before) {
        switch (act) {
            case GUARDIAN_ACT:
                book.guardians--;
                break;
            case BOND_ACT:
                book.bonds[number] = before;
                break;
            case WARD_ACT:
                book.wards--;
                break;
            case CHANGE_ACT:
                book.ward[number].changes--;
                break;
            case ENTRY_ACT:
                book.entries--;
                break;
            case ORDER_ACT:
                book.orders--;
                break;
            case RATIFY_ACT:
                book.entry[number].ratified = false;
                break;
            case CLOSE_ACT:
                book.ward[number].closed--;
                break;
            case SETTLE_ACT:
                book.ward[number].settled = false;
                break;
            default:
                break;
        }
    }

    private int idleOn(int ward, int day) {
        view.look(book, ward, day / YEAR);
        return view.idle[day % YEAR];
    }

    private int chargeOf(int ward, int year) {
        if (year < book.ward[ward].closed) {
            return book.ward[ward].charge[year];
        }
        view.look(book, ward, year);
        return view.chargeAt(book.rule[RATE]);
    }

    private int commissionOf(int ward, int year) {
        if (year < book.ward[ward].closed) {
            return book.ward[ward].commission[year];
        }
        long received = book.partOf(ward, firstDay(year), lastDay(year), RECEIVED);
        return (int) (received * book.rule[FEE] / 1000);
    }

    private int carriedInto(int ward, int year) {
        if (year == 0) {
            return 0;
        }
        return book.moneyOn(ward, firstDay(year) - 1) + book.ward[ward].broughtBy(year - 1);
    }

    private int savedBy(int ward, int day, int amount) {
        int rate = book.rule[RATE];
        int year = day / YEAR;
        view.look(book, ward, year);
        int without = view.chargeAt(rate);
        view.lookWithMoreOut(book, ward, year, day, amount);
        return without - view.chargeAt(rate);
    }

    private int shortOf(int guardian, int day) {
        peak.seek(book, guardian, day);
        return Math.max(0, peak.sum * book.rule[COVER] - book.bonds[guardian]);
    }

    /** By how much GUARDIANS are SHORT, as ranked() put it into the row. */
    private boolean ranksAhead(int one, int other) {
        if (row[one] != row[other]) {
            return row[one] > row[other];
        }
        if (book.bonds[one] != book.bonds[other]) {
            return book.bonds[one] < book.bonds[other];
        }
        return one < other;
    }

    private int sizeOf(int number, int day, int what) {
        switch (what) {
            case 0:
                return book.estateOn(number, day);
            case 1:
                return idleOn(number, day);
            default:
                return shortOf(number, day);
        }
    }

    private int chargePart(int guardian, int ward, int year) {
        view.look(book, ward, year);
        long all = 0;
        long his = 0;
        for (int i = 0; i < YEAR; i++) {
            all += view.idle[i];
            if (book.ward[ward].guardianOn(firstDay(year) + i) == guardian) {
                his += view.idle[i];
            }
        }
        return all <= 0 ? 0 : (int) (book.ward[ward].charge[year] * his / all);
    }

    private int commissionTo(int guardian, int ward, int year) {
        boolean gets = book.ward[ward].guardianOn(lastDay(year)) == guardian;
        return gets ? book.ward[ward].commission[year] : 0;
    }

    /** The k-th of the first so many numbers in the row; how many they are, for NONE. */
    private int fromRow(int many, int k) {
        if (k == NONE) {
            return many;
        }
        return k < 0 || k >= many ? NONE : row[k];
    }

    /** The words of the RULES, their bounds, and what holds without them. */
    private enum Rule {
        AGE_RULE("age", 18, 25, 21),
        SMALL_RULE("small", 0, 999, 40),
        GRACE_RULE("grace", 0, 359, 90),
        FLOOR_RULE("floor", 0, 9999, 100),
        RATE_RULE("rate", 0, 200, 50),
        FEE_RULE("fee", 0, 100, 25),
        COVER_RULE("cover", 1, 4, 2);

        final String word;
        final int least;
        final int greatest;
        final int usual;

        Rule(String word, int least, int greatest, int usual) {
            this.word = word;
            this.least = least;
            this.greatest = greatest;
            this.usual = usual;
        }
    }

    /** The bytes that were fed. */
    private static final class Tape {
        final int[] bytes = new int[TAPE_BYTES];
        int length = 0;

        /** Takes the four bytes of a number; false if they don't all fit. */
        boolean take(int number) {
            for (int shift = 24; shift >= 0; shift -= 8) {
                int next = (number >>> shift) & 255;
                if (next != 0) {
                    if (length >= TAPE_BYTES) {
                        return false;
                    }
                    bytes[length] = next;
                    length++;
                }
            }
            return true;
        }

        /** The byte there; 0, which no TAPE holds, behind the end. */
        int byteAt(int at) {
            return at >= 0 && at < length ? bytes[at] : 0;
        }

        int pastBlanks(int from) {
            int at = from;
            while (at < length && byteAt(at) == ' ') {
                at++;
            }
            return at;
        }

        int pastRun(int from, int least, int greatest) {
            int at = from;
            while (at < length && byteAt(at) >= least && byteAt(at) <= greatest) {
                at++;
            }
            return at;
        }

        boolean isWord(int from, int to, String word) {
            if (to - from != word.length()) {
                return false;
            }
            for (int i = 0; i < word.length(); i++) {
                if (byteAt(from + i) != word.charAt(i)) {
                    return false;
                }
            }
            return true;
        }
    }

    /** Reads a TAPE as RULES. */
    private static final class RuleReader {
        final int[] told = new int[RULES.length];
        final boolean[] was = new boolean[RULES.length];
        int lines = 0;

        /** The FAULT, NONE if there is none: then the RULES stand in told. */
        int firstFault(Tape tape) {
            forget();
            int at = tape.pastBlanks(0);
            if (at == tape.length) {
                return NONE;
            }
            // There are no more LINES than words: one more has its FAULT in its word.
            for (int line = 0; line <= RULES.length; line++) {
                int fault = readLine(tape, at);
                if (fault != NONE) {
                    return fault;
                }
                at = lineEnd(tape, at);
                if (at == tape.length) {
                    return NONE;
                }
                if (tape.byteAt(at) != ';') {
                    return at;
                }
                at = tape.pastBlanks(at + 1);
            }
            return at;
        }

        private void forget() {
            lines = 0;
            for (int i = 0; i < RULES.length; i++) {
                told[i] = RULES[i].usual;
                was[i] = false;
            }
        }

        private int readLine(Tape tape, int wordAt) {
            if (wordAt == tape.length) {
                return wordAt;
            }
            int wordEnd = tape.pastRun(wordAt, 'a', 'z');
            int which = ruleAt(tape, wordAt, wordEnd);
            if (which == NONE || was[which]) {
                return wordAt;
            }
            int numberAt = tape.pastBlanks(wordEnd);
            if (numberAt == tape.length) {
                return numberAt;
            }
            int number = numberIn(tape, numberAt, tape.pastRun(numberAt, '0', '9'));
            if (number < RULES[which].least || number > RULES[which].greatest) {
                return numberAt;
            }
            told[which] = number;
            was[which] = true;
            lines++;
            return NONE;
        }

        /** Behind the blanks behind a LINE without a FAULT. */
        private int lineEnd(Tape tape, int wordAt) {
            int numberAt = tape.pastBlanks(tape.pastRun(wordAt, 'a', 'z'));
            return tape.pastBlanks(tape.pastRun(numberAt, '0', '9'));
        }

        private int ruleAt(Tape tape, int from, int to) {
            for (int i = 0; i < RULES.length; i++) {
                if (tape.isWord(from, to, RULES[i].word)) {
                    return i;
                }
            }
            return NONE;
        }

        /** NONE, which is out of all bounds, if the digits make no NUMBER. */
        private int numberIn(Tape tape, int from, int to) {
            if (to == from || to - from > MAX_DIGITS) {
                return NONE;
            }
            int number = 0;
            for (int at = from; at < to; at++) {
                number = number * 10 + tape.byteAt(at) - '0';
            }
            return number;
        }
    }

    /** A WARD: his GUARDIANS, and what his CLOSED YEARS came to. */
    private static final class Ward {
        int born = 0;
        int guardian = 0;
        int changes = 0;
        final int[] changeDay = new int[MAX_CHANGES];
        final int[] changeTo = new int[MAX_CHANGES];
        int closed = 0;
        boolean settled = false;
        final int[] charge = new int[YEARS];
        final int[] commission = new int[YEARS];

        void begin(int bornOn, int firstGuardian) {
            born = bornOn;
            guardian = firstGuardian;
            changes = 0;
            closed = 0;
            settled = false;
        }

        void become(Ward other) {
            begin(other.born, other.guardian);
            changes = other.changes;
            closed = other.closed;
            settled = other.settled;
            System.arraycopy(other.changeDay, 0, changeDay, 0, MAX_CHANGES);
            System.arraycopy(other.changeTo, 0, changeTo, 0, MAX_CHANGES);
            System.arraycopy(other.charge, 0, charge, 0, YEARS);
            System.arraycopy(other.commission, 0, commission, 0, YEARS);
        }

        void goTo(int day, int nextGuardian) {
            if (changes < MAX_CHANGES) {
                changeDay[changes] = day;
                changeTo[changes] = nextGuardian;
                changes++;
            }
        }

        int guardianOn(int day) {
            int his = guardian;
            for (int i = 0; i < changes && changeDay[i] <= day; i++) {
                his = changeTo[i];
            }
            return his;
        }

        boolean changesAfter(int day) {
            return changes > 0 && changeDay[changes - 1] > day;
        }

        boolean isShutOn(int day) {
            return settled || day < firstDay(closed);
        }

        int broughtBy(int year) {
            return year >= 0 && year < closed ? charge[year] - commission[year] : 0;
        }

        int broughtAheadOf(int day) {
            int sum = 0;
            for (int year = 0; year < closed && (year + 1) * YEAR <= day; year++) {
                sum += charge[year] - commission[year];
            }
            return sum;
        }

        int dayOfAge(int age) {
            return born + age * YEAR;
        }

        boolean canSettle(int age) {
            int day = dayOfAge(age);
            return day < DAYS && Math.max(0, day) / YEAR < closed;
        }
    }

    /** An ENTRY of any sort: kind is a RECEIPT's source too, kind and voucher NONE of others. */
    private static final class Entry {
        int sort = 0;
        int ward = 0;
        int day = 0;
        int amount = 0;
        int kind = 0;
        int voucher = 0;
        boolean good = false;
        boolean ratified = false;
        int allowed = 0;

        void tell(int ofSort, int ofWard, int onDay, int much, int ofKind, int withVoucher,
                boolean isGood) {
            sort = ofSort;
            ward = ofWard;
            day = onDay;
            amount = much;
            kind = ofKind;
            voucher = withVoucher;
            good = isGood;
            ratified = false;
            allowed = 0;
        }

        void become(Entry other) {
            tell(other.sort, other.ward, other.day, other.amount, other.kind, other.voucher,
                    other.good);
            ratified = other.ratified;
            allowed = other.allowed;
        }

        boolean isBacked(int small) {
            return good || amount <= small || ratified;
        }

        boolean isSpoilt() {
            return sort == PAYMENT && voucher > 0 && !good;
        }

        /** What it adds to RECEIPTS, ALLOWED, DISALLOWED, or LAID OUT less CALLED IN. */
        int part(int what) {
            switch (what) {
                case RECEIVED:
                    return sort == RECEIPT ? amount : 0;
                case ALLOWED:
                    return sort == PAYMENT ? allowed : 0;
                case DISALLOWED:
                    return sort == PAYMENT ? amount - allowed : 0;
                default:
                    return sort == LAID_OUT ? amount : sort == CALLED_IN ? -amount : 0;
            }
        }

        /** What it adds to MONEY and OUT: what is LAID OUT or CALLED IN leaves them as they are. */
        int effectOnEstate() {
            return sort == RECEIPT ? amount : sort == PAYMENT ? -allowed : 0;
        }

        int effectOnMoney() {
            return effectOnEstate() - part(PLACED);
        }
    }

    /** An ORDER of the court. */
    private static final class Order {
        int ward = 0;
        int kind = 0;
        int first = 0;
        int last = 0;
        int amount = 0;

        void tell(int ofWard, int ofKind, int from, int to, int much) {
            ward = ofWard;
            kind = ofKind;
            first = from;
            last = to;
            amount = much;
        }

        int shareOf(int year) {
            int days = Math.min(last, lastDay(year)) - Math.max(first, firstDay(year)) + 1;
            return days <= 0 ? 0 : amount * days / YEAR;
        }
    }

    /** The RULES and all that is told behind them, which an IMAGE keeps. */
    private static final class Book {
        final int[] rule = new int[RULES.length];
        int guardians = 0;
        final int[] bonds = new int[MAX_GUARDIANS];
        int wards = 0;
        final Ward[] ward = new Ward[MAX_WARDS];
        int entries = 0;
        final Entry[] entry = new Entry[MAX_ENTRIES];
        int orders = 0;
        final Order[] order = new Order[MAX_ORDERS];
        // What is left of each ALLOWANCE while reckon() goes on, and in which turn it goes.
        final int[] left = new int[MAX_WARDS * ALLOWED_KINDS * YEARS];
        final int[] turn = new int[MAX_ENTRIES];

        Book() {
            for (int i = 0; i < RULES.length; i++) {
                rule[i] = RULES[i].usual;
            }
            for (int i = 0; i < MAX_WARDS; i++) {
                ward[i] = new Ward();
            }
            for (int i = 0; i < MAX_ENTRIES; i++) {
                entry[i] = new Entry();
            }
            for (int i = 0; i < MAX_ORDERS; i++) {
                order[i] = new Order();
            }
        }

        void beginAnew(int[] newRules) {
            System.arraycopy(newRules, 0, rule, 0, RULES.length);
            guardians = 0;
            wards = 0;
            entries = 0;
            orders = 0;
        }

        /** All but the RULES: with other RULES the IMAGE is gone. */
        void become(Book other) {
            System.arraycopy(other.bonds, 0, bonds, 0, MAX_GUARDIANS);
            guardians = other.guardians;
            wards = other.wards;
            entries = other.entries;
            orders = other.orders;
            for (int i = 0; i < wards; i++) {
                ward[i].become(other.ward[i]);
            }
            for (int i = 0; i < entries; i++) {
                entry[i].become(other.entry[i]);
            }
            for (int i = 0; i < orders; i++) {
                Order o = other.order[i];
                order[i].tell(o.ward, o.kind, o.first, o.last, o.amount);
            }
        }

        StringBuilder rulesAsText() {
            StringBuilder text = new StringBuilder();
            for (int i = 0; i < RULES.length; i++) {
                if (i > 0) {
                    text.append(';');
                }
                text.append(RULES[i].word).append(' ').append(rule[i]);
            }
            return text;
        }

        boolean hasGuardian(int number) {
            return number >= 0 && number < guardians;
        }

        boolean hasWard(int number) {
            return number >= 0 && number < wards;
        }

        boolean isPayment(int number) {
            return number >= 0 && number < entries && entry[number].sort == PAYMENT;
        }

        /** The PAYMENT of which a VOUCHER (not 0) is GOOD. */
        int holderOf(int voucher) {
            for (int i = 0; i < entries; i++) {
                if (entry[i].sort == PAYMENT && entry[i].voucher == voucher) {
                    return i;
                }
            }
            return NONE;
        }

        int allowanceOf(int ofWard, int kind, int year) {
            int sum = 0;
            for (int i = 0; i < orders; i++) {
                if (order[i].ward == ofWard && order[i].kind == kind) {
                    sum += order[i].shareOf(year);
                }
            }
            return sum;
        }

        /** Finds what is ALLOWED of each PAYMENT; due whenever an ENTRY or ORDER comes or goes. */
        void reckon() {
            fillLeft();
            fillTurn();
            for (int i = 0; i < entries; i++) {
                Entry next = entry[turn[i]];
                if (next.sort == PAYMENT) {
                    next.allowed = takeAllowed(next);
                }
            }
        }

        private int leftAt(int ofWard, int kind, int year) {
            return (ofWard * ALLOWED_KINDS + kind) * YEARS + year;
        }

        private void fillLeft() {
            Arrays.fill(left, 0);
            for (int i = 0; i < orders; i++) {
                for (int year = 0; year < YEARS; year++) {
                    left[leftAt(order[i].ward, order[i].kind, year)] += order[i].shareOf(year);
                }
            }
        }

        private void fillTurn() {
            for (int i = 0; i < entries; i++) {
                int at = i;
                while (at > 0 && entry[turn[at - 1]].day > entry[i].day) {
                    turn[at] = turn[at - 1];
                    at--;
                }
                turn[at] = i;
            }
        }

        private int takeAllowed(Entry payment) {
            if (payment.ratified) {
                return payment.amount;
            }
            if (!payment.isBacked(rule[SMALL])) {
                return 0;
            }
            if (payment.kind >= ALLOWED_KINDS) {
                return payment.amount;
            }
            int at = leftAt(payment.ward, payment.kind, payment.day / YEAR);
            int allowed = Math.min(payment.amount, left[at]);
            left[at] -= allowed;
            return allowed;
        }

        /** What the ENTRIES of a WARD from a DAY to a DAY add to one of the parts. */
        int partOf(int ofWard, int first, int last, int what) {
            int sum = 0;
            for (int i = 0; i < entries; i++) {
                Entry e = entry[i];
                if (e.ward == ofWard && e.day >= first && e.day <= last) {
                    sum += e.part(what);
                }
            }
            return sum;
        }

        int moneyOn(int ofWard, int day) {
            return estateOn(ofWard, day) - outOn(ofWard, day);
        }

        int outOn(int ofWard, int day) {
            return partOf(ofWard, 0, day, PLACED);
        }

        /** MONEY and OUT. */
        int estateOn(int ofWard, int day) {
            int sum = ward[ofWard].broughtAheadOf(day);
            for (int i = 0; i < entries; i++) {
                if (entry[i].ward == ofWard && entry[i].day <= day) {
                    sum += entry[i].effectOnEstate();
                }
            }
            return sum;
        }

        int meanOf(int ofWard) {
            int closed = ward[ofWard].closed;
            if (closed <= 0) {
                return HIDDEN;
            }
            int last = firstDay(closed) - 1;
            return (partOf(ofWard, 0, last, RECEIVED) - partOf(ofWard, 0, last, ALLOWED)) / closed;
        }

        int disallowedUnder(int guardian) {
            int sum = 0;
            for (int i = 0; i < entries; i++) {
                if (ward[entry[i].ward].guardianOn(entry[i].day) == guardian) {
                    sum += entry[i].part(DISALLOWED);
                }
            }
            return sum;
        }

        /** PAYMENTS IN DISPUTE of a WARD (NONE: of all), in their order; how many they are. */
        int fillDisputes(int ofWard, int[] into) {
            int many = 0;
            for (int i = 0; i < entries; i++) {
                int disallowed = entry[i].part(DISALLOWED);
                if (disallowed > 0 && (ofWard == NONE || entry[i].ward == ofWard)) {
                    int at = many;
                    while (at > 0 && entry[into[at - 1]].part(DISALLOWED) < disallowed) {
                        into[at] = into[at - 1];
                        at--;
                    }
                    into[at] = i;
                    many++;
                }
            }
            return many;
        }

        /** PAYMENTS with a VOUCHER that isn't GOOD; how many they are. */
        int fillSpoilt(int[] into) {
            int many = 0;
            for (int i = 0; i < entries; i++) {
                if (entry[i].isSpoilt()) {
                    into[many] = i;
                    many++;
                }
            }
            return many;
        }

        /** Each VOUCHER that a PAYMENT has, once, rising; how many they are. */
        int fillVouchers(int[] into) {
            int many = 0;
            for (int i = 0; i < entries; i++) {
                if (entry[i].good) {
                    int at = many;
                    while (at > 0 && into[at - 1] > entry[i].voucher) {
                        into[at] = into[at - 1];
                        at--;
                    }
                    into[at] = entry[i].voucher;
                    many++;
                }
            }
            return many;
        }
    }

    /** A YEAR of a WARD day by day. */
    private static final class YearView {
        // The YEAR ahead stands in it too, as IDLE looks back by up to 359 DAYS.
        final int[] money = new int[2 * YEAR];
        final int[] idle = new int[YEAR];
        final int[] waiting = new int[2 * YEAR];

        void look(Book book, int ward, int year) {
            lookWithMoreOut(book, ward, year, firstDay(year), 0);
        }

        /** As if so much more were LAID OUT on a DAY of the YEAR. */
        void lookWithMoreOut(Book book, int ward, int year, int day, int amount) {
            int from = firstDay(year - 1);
            Arrays.fill(money, 0);
            for (int i = 0; i < book.entries; i++) {
                Entry e = book.entry[i];
                if (e.ward == ward) {
                    addFrom(e.day - from, e.effectOnMoney());
                }
            }
            for (int y = 0; y < book.ward[ward].closed; y++) {
                addFrom(firstDay(y + 1) - from, book.ward[ward].broughtBy(y));
            }
            addFrom(day - from, -amount);
            for (int i = 1; i < money.length; i++) {
                money[i] += money[i - 1];
            }
            findIdle(book.rule[GRACE], book.rule[FLOOR]);
        }

        /** What came ahead of the first DAY here is there on it already. */
        private void addFrom(int at, int amount) {
            if (at < money.length) {
                money[Math.max(0, at)] += amount;
            }
        }

        /**
         * The DAYS that wait are those of the last grace DAYS whose MONEY may yet be the least:
         * each has less than those behind it, so that the first of them has the least.
         */
        private void findIdle(int grace, int floor) {
            int head = 0;
            int tail = 0;
            for (int i = YEAR - grace; i < money.length; i++) {
                while (tail > head && money[waiting[tail - 1]] >= money[i]) {
                    tail--;
                }
                waiting[tail] = i;
                tail++;
                if (waiting[head] < i - grace) {
                    head++;
                }
                if (i >= YEAR) {
                    idle[i - YEAR] = Math.max(0, money[waiting[head]] - floor);
                }
            }
        }

        int chargeAt(int rate) {
            long sum = 0;
            for (int i = 0; i < YEAR; i++) {
                sum += idle[i];
            }
            return (int) (sum * rate / 360000);
        }

        int moneyOfDay(int day) {
            return money[YEAR + day];
        }

        /** The first DAY, counted in the YEAR, with the greatest or the least MONEY. */
        int extremeDay(int first, int last, boolean greatest) {
            int best = first;
            for (int day = first + 1; day <= last; day++) {
                int above = moneyOfDay(day) - moneyOfDay(best);
                if (greatest ? above > 0 : above < 0) {
                    best = day;
                }
            }
            return best;
        }

        int daysBelowNought() {
            int days = 0;
            for (int day = 0; day < YEAR; day++) {
                if (moneyOfDay(day) < 0) {
                    days++;
                }
            }
            return days;
        }

        int daysIdle() {
            int days = 0;
            for (int day = 0; day < YEAR; day++) {
                if (idle[day] > 0) {
                    days++;
                }
            }
            return days;
        }
    }

    /** The greatest sum of MONEY and OUT of the WARDS of a GUARDIAN, and the first DAY of it. */
    private static final class Peak {
        int day = NONE;
        int sum = 0;

        /** Looks only at DAYS on which the sum may change: it is the same up to the next. */
        void seek(Book book, int guardian, int last) {
            day = NONE;
            tryDay(book, guardian, 0, last);
            for (int i = 0; i < book.entries; i++) {
                tryDay(book, guardian, book.entry[i].day, last);
            }
            for (int year = 1; year < YEARS; year++) {
                tryDay(book, guardian, firstDay(year), last);
            }
            for (int w = 0; w < book.wards; w++) {
                for (int i = 0; i < book.ward[w].changes; i++) {
                    tryDay(book, guardian, book.ward[w].changeDay[i], last);
                }
            }
        }

        private void tryDay(Book book, int guardian, int at, int last) {
            if (at > last) {
                return;
            }
            int held = 0;
            for (int w = 0; w < book.wards; w++) {
                if (book.ward[w].guardianOn(at) == guardian) {
                    held += book.estateOn(w, at);
                }
            }
            if (day == NONE || held > sum || held == sum && at < day) {
                sum = held;
                day = at;
            }
        }
    }

    /** The latest ACTS: what to take back of each, and what was there ahead of it. */
    private static final class Acts {
        int count = 0;
        final int[] sort = new int[MAX_UNDO];
        final int[] number = new int[MAX_UNDO];
        final int[] before = new int[MAX_UNDO];

        void forgetAll() {
            count = 0;
        }

        void note(int act, int ofNumber, int wasBefore) {
            if (count == MAX_UNDO) {
                dropOldest();
            }
            sort[count] = act;
            number[count] = ofNumber;
            before[count] = wasBefore;
            count++;
        }

        private void dropOldest() {
            for (int i = 1; i < MAX_UNDO; i++) {
                sort[i - 1] = sort[i];
                number[i - 1] = number[i];
                before[i - 1] = before[i];
            }
            count = MAX_UNDO - 1;
        }
    }
}
