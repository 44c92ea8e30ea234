import java.util.NoSuchElementException;
import java.util.function.IntSupplier;

/** Each promise of the document by itself, with answers reckoned by hand. */
public final class PromiseTest {
    private static final int NONE = GuardRolls.NONE;
    private static final int HIDDEN = GuardRolls.HIDDEN;
    private static final int[] WILD = {Integer.MIN_VALUE, -2, Integer.MAX_VALUE};

    // MONEY bears 100 a thousand from its first DAY on, and half a tenth of RECEIPTS goes.
    private static final String SIMPLE = "small 0;grace 0;floor 0;rate 100;fee 50;cover 1";

    private final Checks checks = new Checks();

    public static void main(String[] args) {
        PromiseTest test = new PromiseTest();
        test.promises1To6();
        test.promises7To12();
        test.promises13To18();
        test.promises19To24();
        test.promises25To31();
        test.promises32To37();
        test.promises38To45();
        test.promises46To52();
        test.allowed();
        test.closing();
        test.fullRooms();
        test.checks.end("PromiseTest");
    }

    private void promises1To6() {
        newObject();
        feed();
        end();
        fault();
        rules();
        rule();
    }

    private void promises7To12() {
        guardian();
        bond();
        ward();
        change();
        receive();
        pay();
    }

    private void promises13To18() {
        layOut();
        callIn();
        order();
        ratify();
        close();
        settle();
    }

    private void promises19To24() {
        money();
        out();
        idle();
        charge();
        commission();
        allowance();
    }

    private void promises25To31() {
        entry();
        payment();
        account();
        month();
        extreme();
        secondDay();
        mean();
        lasts();
    }

    private void promises32To37() {
        whose();
        bonded();
        liable();
        dispute();
        holder();
        again();
    }

    private void promises38To45() {
        needed();
        ranked();
        missing();
        saved();
        bestDay();
        ofAge();
        due();
        wardOf();
    }

    private void promises46To52() {
        written();
        undo();
        image();
        back();
        backOverUndone();
        status();
        most();
        count();
    }

    // ---- helpers

    private void due(String call, long got, long want) {
        checks.due(call, got, want);
    }

    /** The call answers NONE, and of STATUS the one counts one more, the others none. */
    private void refused(GuardRolls x, int reason, String call, IntSupplier asked) {
        int[] before = new int[5];
        for (int i = 0; i < 5; i++) {
            before[i] = x.status(i);
        }
        int undoable = x.count(1);
        due(call, asked.getAsInt(), NONE);
        for (int i = 0; i < 5; i++) {
            due("status(" + i + ") behind " + call, x.status(i), before[i] + (i == reason ? 1 : 0));
        }
        due("count(1) behind " + call, x.count(1), undoable);
    }

    private void hidden(String call, IntSupplier asked) {
        due(call, asked.getAsInt(), HIDDEN);
    }

    private void none(String call, IntSupplier asked) {
        due(call, asked.getAsInt(), NONE);
    }

    /** Two GUARDIANS (0: BOND 0, 1: BOND 500) and a WARD 0 of GUARDIAN 0, BORN on DAY 0. */
    private static GuardRolls told(String rules) {
        GuardRolls x = Checks.under(rules);
        x.guardian(0);
        x.guardian(500);
        x.ward(0, 0);
        return x;
    }

    private int feedText(GuardRolls x, String text) {
        int[] n = Checks.numbers(text, 0);
        return x.feed(n[0], n[1], n[2], n[3], n[4]);
    }

    // ---- 1 to 6

    private void newObject() {
        GuardRolls x = new GuardRolls();
        int[] usual = {21, 40, 90, 100, 50, 25, 2};
        for (int i = 0; i < usual.length; i++) {
            due("1: rule", x.rule(i), usual[i]);
        }
        for (int i = 0; i < 6; i++) {
            due("1: count", x.count(i), 0);
        }
        for (int i = 0; i < 5; i++) {
            due("1: status", x.status(i), 0);
        }
        due("1: undo", x.undo(), NONE);
        due("1: back", x.back(), NONE);
        due("1: fault", x.fault(), NONE);
    }

    private void feed() {
        GuardRolls x = new GuardRolls();
        due("2: zeros", x.feed(0, 0, 0, 0, 0), 0);
        due("2: left out", x.feed(0x61006700, 0, 0x00650020, 0, 0x32310000), 6);
        due("2: order of bytes", x.fault(), NONE);
        due("2: age 21", x.rules(), 1);
        due("2: bytes from 128 on", x.feed(0xffffffff, 0x80808080, -1, -1, -1), 20);
        due("2: fault of those", x.fault(), 0);
        for (int i = 2; i <= 9; i++) {
            due("2: twenty more", x.feed(-1, -1, -1, -1, -1), 20 * i);
        }
        due("2: 191", x.feed(-1, -1, 0, 0, 0xff000000), 189);
        due("2: too many", x.feed(-1, -1, -1, 0, 0), NONE);
        due("2: nothing came", x.count(0), 189);
        due("2: 200", x.feed(0x00ff00ff, 0xff, -1, -1, 0), 200);
        due("2: none at 200", x.feed(0, 0, 0, 0, 0), 200);
        due("2: 201", x.feed(0, 0, 1, 0, 0), NONE);
        due("2: 200 stay", x.count(0), 200);
    }

    private void end() {
        GuardRolls x = new GuardRolls();
        checks.due("3: end of nothing", x.end(0), true);
        checks.due("3: beyond", x.end(1), false);
        feedText(x, "age 21x");
        checks.due("3: below", x.end(-1), false);
        checks.due("3: beyond", x.end(8), false);
        checks.due("3: wild", x.end(Integer.MIN_VALUE), false);
        due("3: all stays", x.count(0), 7);
        checks.due("3: all", x.end(7), true);
        due("3: all", x.fault(), 6);
        checks.due("3: fewer", x.end(6), true);
        due("3: fewer", x.fault(), NONE);
        due("3: count", x.count(0), 6);
    }

    private void faultOf(String text, int want) {
        GuardRolls x = new GuardRolls();
        Checks.tape(x, text);
        due("4: fault of '" + text + "'", x.fault(), want);
        due("4: tape of '" + text + "'", x.count(0), text.length());
    }

    private void fault() {
        String[] good = {"", " ", "   ", "age 18", "age25", " age  21 ", "small 0",
            "grace 359;floor 9999;rate 200", "fee 0100 ; cover 4", "cover1;fee0;rate 0;floor 0",
            "age 0021", "floor 0000"};
        for (String text : good) {
            faultOf(text, NONE);
        }
        String[] bad = {"ag 21", "agee 21", "Age 21", "age 17", "age 26", "small 1000", "grace 360",
            "floor 10000", "rate 201", "fee 101", "cover 0", "cover 5", "age 00021", "age x",
            "age ;", "age 21 22", "age 21x", "age 21;;", ";", "age 21; age 22", "age",
            "age  ", "age 21;", "age 21; ", "age -1", "age\n21", "7 age", "age 21,small 3", "ag",
            "  cover", " cover 2 : ", "agesmall 3", "age 21 ;\u00e9", "cover 00", "floor  12345;"};
        int[] places = {0, 0, 0, 4, 4, 6, 6, 6, 5, 4, 6, 6, 4, 4, 4, 7, 6, 7, 0, 8, 3, 5, 7, 8, 4,
            3, 0, 6, 0, 7, 9, 0, 8, 6, 7};
        due("4: as many", bad.length, places.length);
        for (int i = 0; i < bad.length; i++) {
            faultOf(bad[i], places[i]);
        }
    }

    private void rules() {
        GuardRolls x = told("age 18;rate 7");
        refused(x, 1, "5: guardian(-1)", () -> x.guardian(-1));
        x.receive(0, 0, 100, 0);
        x.image();
        feedText(x, "age 20;fee");
        due("5: a FAULT", x.rules(), NONE);
        due("5: the TAPE stays", x.count(0), 10);
        due("5: RULES stay", x.rule(0), 18);
        due("5: ENTRIES stay", x.count(4), 1);
        x.end(6);
        due("5: a LINE", x.rules(), 1);
        due("5: told", x.rule(0), 20);
        due("5: not told", x.rule(4), 50);
        for (int i = 0; i < 6; i++) {
            due("5: all is gone", x.count(i), 0);
        }
        due("5: the IMAGE is gone", x.back(), NONE);
        due("5: no UNDO", x.undo(), NONE);
        due("5: STATUS stays", x.status(1), 1);
        due("5: no LINE", x.rules(), 0);
        Checks.tape(x, "cover 4;fee 100;rate 0;floor 9;grace 8;small 7;age 25");
        due("5: seven LINES", x.rules(), 7);
        x.guardian(5);
        due("5: anew", x.ward(-9000, 0), 0);
        due("5: not CLOSED", x.wardOf(0, 1), 0);
        due("5: no MONEY", x.money(0, 3599), 0);
    }

    private void rule() {
        GuardRolls x = Checks.under("age 18;small 1;grace 2;floor 3;rate 4;fee 5;cover 3");
        int[] want = {18, 1, 2, 3, 4, 5, 3};
        for (int i = 0; i < 7; i++) {
            due("6: rule", x.rule(i), want[i]);
        }
        due("6: below", x.rule(-1), NONE);
        due("6: above", x.rule(7), NONE);
        due("6: wild", x.rule(Integer.MIN_VALUE), NONE);
    }

    // ---- 7 to 12

    private void guardian() {
        GuardRolls x = new GuardRolls();
        refused(x, 1, "7: below", () -> x.guardian(-1));
        refused(x, 1, "7: above", () -> x.guardian(1000000));
        due("7: least", x.guardian(0), 0);
        due("7: greatest", x.guardian(999999), 1);
        due("7: third", x.guardian(7), 2);
        refused(x, 4, "7: a fourth", () -> x.guardian(7));
        refused(x, 1, "7: bounds first", () -> x.guardian(-1));
        due("7: how many", x.count(3), 3);
    }

    private void bond() {
        GuardRolls x = told("");
        due("8: other", x.bond(1, 999999), 500);
        due("8: other again", x.bond(1, 0), 999999);
        refused(x, 0, "8: no such one", () -> x.bond(2, 1000000));
        refused(x, 0, "8: below", () -> x.bond(-1, 5));
        refused(x, 1, "8: above", () -> x.bond(1, 1000000));
        refused(x, 1, "8: below", () -> x.bond(1, -1));
        refused(x, 3, "8: it is so", () -> x.bond(1, 0));
        x.receive(0, 0, 100, 0);
        due("8: SHORT", x.bonded(0, 0, 1), 200);
        due("8: is 0", x.bond(0, 150), 0);
        due("8: SHORT of 150", x.bonded(0, 0, 1), 50);
    }

    private void ward() {
        GuardRolls x = new GuardRolls();
        refused(x, 0, "9: no GUARDIAN", () -> x.ward(0, 0));
        x.guardian(1);
        refused(x, 0, "9: below", () -> x.ward(-9001, -1));
        refused(x, 1, "9: early", () -> x.ward(-9001, 0));
        refused(x, 1, "9: late", () -> x.ward(3600, 0));
        due("9: earliest", x.ward(-9000, 0), 0);
        due("9: latest", x.ward(3599, 0), 1);
        due("9: third", x.ward(0, 0), 2);
        due("9: fourth", x.ward(0, 0), 3);
        refused(x, 4, "9: a fifth", () -> x.ward(0, 0));
        refused(x, 1, "9: bounds first", () -> x.ward(3600, 0));
        refused(x, 0, "9: GUARDIAN first", () -> x.ward(3600, 1));
    }

    private void change() {
        GuardRolls x = told("age 18");
        x.guardian(9);
        refused(x, 0, "10: no WARD", () -> x.change(1, -1, 1));
        refused(x, 0, "10: no GUARDIAN", () -> x.change(0, 3600, 3));
        refused(x, 1, "10: early", () -> x.change(0, -1, 1));
        refused(x, 1, "10: late", () -> x.change(0, 3600, 1));
        refused(x, 3, "10: his already", () -> x.change(0, 5, 0));
        due("10: first", x.change(0, 400, 1), 1);
        refused(x, 3, "10: his already", () -> x.change(0, 400, 1));
        refused(x, 3, "10: a later one", () -> x.change(0, 399, 2));
        due("10: the same DAY", x.change(0, 400, 2), 2);
        due("10: last on that DAY", x.whose(0, 400), 2);
        due("10: back", x.change(0, 400, 0), 3);
        due("10: next DAY", x.change(0, 401, 1), 4);
        x.close(0);
        refused(x, 2, "10: CLOSED", () -> x.change(0, 359, 0));
        due("10: fifth", x.change(0, 401, 2), 5);
        due("10: sixth", x.change(0, 3599, 0), 6);
        refused(x, 4, "10: a seventh", () -> x.change(0, 3599, 1));
        refused(x, 3, "10: can't first", () -> x.change(0, 3599, 0));
        refused(x, 2, "10: CLOSED first", () -> x.change(0, 0, 0));
        due("10: wardOf", x.wardOf(0, 3), 6);
        due("10: of his own", x.ward(-7000, 0), 1);
        due("10: DAY 0", x.change(1, 0, 1), 1);
        due("10: DAY 0 is his", x.whose(1, 0), 1);
        x.close(1);
        due("10: SETTLED", x.settle(1), 0);
        refused(x, 2, "10: SETTLED", () -> x.change(1, 3599, 0));
    }

    private void receive() {
        GuardRolls x = told("");
        refused(x, 0, "11: no WARD", () -> x.receive(1, -1, 0, 9));
        refused(x, 0, "11: below", () -> x.receive(-1, 0, 1, 0));
        refused(x, 1, "11: early", () -> x.receive(0, -1, 1, 0));
        refused(x, 1, "11: late", () -> x.receive(0, 3600, 1, 0));
        refused(x, 1, "11: none", () -> x.receive(0, 0, 0, 0));
        refused(x, 1, "11: much", () -> x.receive(0, 0, 100000, 0));
        refused(x, 1, "11: source", () -> x.receive(0, 0, 1, -1));
        refused(x, 1, "11: source", () -> x.receive(0, 0, 1, 4));
        due("11: least", x.receive(0, 0, 1, 0), 0);
        due("11: greatest", x.receive(0, 3599, 99999, 3), 1);
        due("11: MONEY", x.money(0, 3599), 100000);
        x.close(0);
        refused(x, 2, "11: CLOSED", () -> x.receive(0, 359, 1, 0));
        refused(x, 1, "11: bounds first", () -> x.receive(0, 359, 0, 0));
        due("11: not CLOSED", x.receive(0, 360, 1, 0), 2);
    }

    private void pay() {
        GuardRolls x = told("");
        refused(x, 0, "12: no WARD", () -> x.pay(1, -1, 0, 9, 9));
        refused(x, 1, "12: early", () -> x.pay(0, -1, 1, 0, 0));
        refused(x, 1, "12: late", () -> x.pay(0, 3600, 1, 0, 0));
        refused(x, 1, "12: none", () -> x.pay(0, 0, 0, 0, 0));
        refused(x, 1, "12: much", () -> x.pay(0, 0, 100000, 0, 0));
        refused(x, 1, "12: kind", () -> x.pay(0, 0, 1, -1, 0));
        refused(x, 1, "12: kind", () -> x.pay(0, 0, 1, 4, 0));
        refused(x, 1, "12: voucher", () -> x.pay(0, 0, 1, 0, -1));
        refused(x, 1, "12: voucher", () -> x.pay(0, 0, 1, 0, 1000));
        due("12: least", x.pay(0, 0, 1, 0, 0), 0);
        due("12: greatest", x.pay(0, 3599, 99999, 3, 999), 1);
        due("12: below 0", x.money(0, 3599), -99999);
        x.close(0);
        refused(x, 2, "12: CLOSED", () -> x.pay(0, 359, 1, 0, 0));
        due("12: not CLOSED", x.pay(0, 360, 1, 0, 999), 2);
    }

    // ---- 13 to 18

    private void layOut() {
        GuardRolls x = told("");
        x.receive(0, 10, 500, 0);
        refused(x, 0, "13: no WARD", () -> x.layOut(1, -1, 0));
        refused(x, 1, "13: early", () -> x.layOut(0, -1, 1));
        refused(x, 1, "13: late", () -> x.layOut(0, 3600, 1));
        refused(x, 1, "13: none", () -> x.layOut(0, 10, 0));
        refused(x, 1, "13: much", () -> x.layOut(0, 10, 100000));
        refused(x, 3, "13: ahead of it", () -> x.layOut(0, 9, 1));
        refused(x, 3, "13: more", () -> x.layOut(0, 10, 501));
        due("13: all", x.layOut(0, 10, 500), 1);
        refused(x, 3, "13: no more", () -> x.layOut(0, 3599, 1));
        due("13: MONEY", x.money(0, 10), 0);
        due("13: OUT", x.out(0, 10), 500);
        x.close(0);
        refused(x, 2, "13: CLOSED", () -> x.layOut(0, 359, 9999));
    }

    private void callIn() {
        GuardRolls x = told("");
        x.receive(0, 10, 500, 0);
        x.layOut(0, 20, 300);
        refused(x, 0, "14: no WARD", () -> x.callIn(1, -1, 0));
        refused(x, 1, "14: early", () -> x.callIn(0, -1, 1));
        refused(x, 1, "14: late", () -> x.callIn(0, 3600, 1));
        refused(x, 1, "14: none", () -> x.callIn(0, 20, 0));
        refused(x, 1, "14: much", () -> x.callIn(0, 20, 100000));
        refused(x, 3, "14: ahead of it", () -> x.callIn(0, 19, 1));
        refused(x, 3, "14: more", () -> x.callIn(0, 20, 301));
        due("14: later", x.callIn(0, 30, 300), 2);
        due("14: OUT that DAY only", x.callIn(0, 29, 100), 3);
        due("14: OUT below 0", x.out(0, 30), -100);
        due("14: MONEY", x.money(0, 30), 600);
        x.close(0);
        refused(x, 2, "14: CLOSED", () -> x.callIn(0, 29, 9999));
    }

    private void order() {
        GuardRolls x = told("age 18");
        refused(x, 0, "15: no WARD", () -> x.order(1, 9, 9, 0, 0));
        refused(x, 1, "15: kind", () -> x.order(0, -1, 0, 1, 1));
        refused(x, 1, "15: kind", () -> x.order(0, 2, 0, 1, 1));
        refused(x, 1, "15: early", () -> x.order(0, 0, -1, 1, 1));
        refused(x, 1, "15: late", () -> x.order(0, 0, 0, 3600, 1));
        refused(x, 1, "15: turned", () -> x.order(0, 0, 2, 1, 1));
        refused(x, 1, "15: none", () -> x.order(0, 0, 0, 1, 0));
        refused(x, 1, "15: much", () -> x.order(0, 0, 0, 1, 100000));
        due("15: a DAY", x.order(0, 0, 0, 0, 99999), 1);
        due("15: ALLOWANCE", x.allowance(0, 0, 0), 277);
        x.close(0);
        refused(x, 2, "15: CLOSED", () -> x.order(0, 0, 359, 3599, 1));
        due("15: not CLOSED", x.order(0, 1, 360, 3599, 1), 2);
        x.ward(-7000, 0);
        x.close(1);
        x.settle(1);
        refused(x, 2, "15: SETTLED", () -> x.order(1, 1, 3599, 3599, 1));
    }

    private void ratify() {
        GuardRolls x = told("");
        x.receive(0, 0, 1000, 0);
        x.pay(0, 5, 100, 2, 0);
        x.pay(0, 6, 100, 2, 1);
        x.pay(0, 400, 100, 2, 0);
        refused(x, 0, "16: a RECEIPT", () -> x.ratify(0));
        refused(x, 0, "16: none", () -> x.ratify(4));
        refused(x, 0, "16: below", () -> x.ratify(-1));
        due("16: all", x.ratify(1), 100);
        due("16: nothing", x.ratify(2), 0);
        refused(x, 3, "16: it is", () -> x.ratify(1));
        refused(x, 3, "16: it is", () -> x.ratify(2));
        due("16: MONEY", x.money(0, 5), 900);
        x.close(0);
        refused(x, 2, "16: CLOSED first", () -> x.ratify(1));
        due("16: not CLOSED", x.ratify(3), 100);
        GuardRolls y = Checks.under("age 18");
        y.guardian(0);
        y.ward(-9000, 0);
        y.pay(0, 3599, 100, 2, 0);
        y.close(0);
        y.settle(0);
        refused(y, 2, "16: SETTLED", () -> y.ratify(0));
    }

    private void close() {
        GuardRolls x = told(SIMPLE);
        x.receive(0, 0, 3600, 0);
        refused(x, 0, "17: no WARD", () -> x.close(1));
        refused(x, 0, "17: below", () -> x.close(-1));
        due("17: YEAR 0", x.close(0), 3600 + 360 - 180);
        due("17: YEAR 1", x.close(0), 3780 + 378);
        for (int year = 2; year < 10; year++) {
            due("17: CLOSED", x.wardOf(0, 1), year);
            x.close(0);
        }
        due("17: CLOSED", x.wardOf(0, 1), 10);
        refused(x, 3, "17: all ten", () -> x.close(0));
        x.ward(-9000, 0);
        x.close(1);
        x.settle(1);
        refused(x, 2, "17: SETTLED", () -> x.close(1));
    }

    private void settle() {
        GuardRolls x = Checks.under("age 18");
        x.guardian(0);
        x.ward(-6480, 0);
        x.ward(-6121, 0);
        x.ward(-2880, 0);
        x.ward(-9000, 0);
        refused(x, 0, "18: no WARD", () -> x.settle(4));
        refused(x, 0, "18: below", () -> x.settle(-1));
        refused(x, 3, "18: YEAR 0 isn't CLOSED", () -> x.settle(0));
        x.receive(0, 3599, 70, 0);
        x.receive(0, 0, 10, 0);
        x.layOut(0, 0, 7);
        x.close(0);
        due("18: of DAY 0", x.settle(0), 80);
        refused(x, 2, "18: he is", () -> x.settle(0));
        refused(x, 3, "18: DAY 359", () -> x.settle(1));
        x.close(1);
        due("18: DAY 359", x.settle(1), 0);
        for (int i = 0; i < 10; i++) {
            x.close(2);
        }
        due("18: OF AGE on DAY 3600", x.ofAge(2), 3600);
        refused(x, 3, "18: too late", () -> x.settle(2));
        refused(x, 3, "18: ahead of DAY 0", () -> x.settle(3));
        x.close(3);
        due("18: ahead of DAY 0", x.settle(3), 0);
        refused(x, 2, "18: no ENTRY", () -> x.receive(3, 3599, 1, 0));
        refused(x, 2, "18: no ENTRY", () -> x.pay(3, 3599, 1, 0, 0));
        refused(x, 2, "18: no ENTRY", () -> x.layOut(3, 3599, 1));
        refused(x, 2, "18: no ENTRY", () -> x.callIn(3, 3599, 1));
        GuardRolls y = Checks.under("age 18");
        y.guardian(0);
        y.ward(-2881, 0);
        for (int i = 0; i < 9; i++) {
            y.close(0);
        }
        refused(y, 3, "18: YEAR 9 isn't CLOSED", () -> y.settle(0));
        y.close(0);
        due("18: DAY 3599", y.settle(0), 0);
    }

    // ---- 19 to 24

    private void money() {
        GuardRolls x = told(SIMPLE);
        x.receive(0, 10, 1000, 0);
        x.pay(0, 20, 300, 2, 1);
        x.pay(0, 30, 200, 2, 1);
        x.receive(0, 15, 50, 1);
        x.layOut(0, 40, 400);
        x.callIn(0, 50, 150);
        int[] days = {0, 9, 10, 14, 15, 19, 20, 30, 39, 40, 49, 50, 3599};
        int[] want = {0, 0, 1000, 1000, 1050, 1050, 750, 750, 750, 350, 350, 500, 500};
        for (int i = 0; i < days.length; i++) {
            due("19: money(0, " + days[i] + ")", x.money(0, days[i]), want[i]);
        }
        x.ward(0, 1);
        due("19: of another", x.money(1, 50), 0);
        hidden("19: early", () -> x.money(0, -1));
        hidden("19: late", () -> x.money(0, 3600));
        hidden("19: no WARD", () -> x.money(2, 0));
        hidden("19: below", () -> x.money(-1, 0));
    }

    private void out() {
        GuardRolls x = told("");
        x.receive(0, 0, 1000, 0);
        x.layOut(0, 40, 400);
        x.layOut(0, 45, 100);
        x.callIn(0, 50, 150);
        int[] days = {0, 39, 40, 44, 45, 49, 50, 3599};
        int[] want = {0, 0, 400, 400, 500, 500, 350, 350};
        for (int i = 0; i < days.length; i++) {
            due("20: out(0, " + days[i] + ")", x.out(0, days[i]), want[i]);
        }
        x.ward(0, 1);
        due("20: of another", x.out(1, 50), 0);
        for (int wild : WILD) {
            hidden("20: no DAY", () -> x.out(0, wild));
            hidden("20: no WARD", () -> x.out(wild, 0));
        }
        hidden("20: late", () -> x.out(0, 3600));
    }

    private void idle() {
        GuardRolls x = told("grace 2;floor 10");
        x.receive(0, 5, 100, 0);
        x.receive(0, 8, 50, 0);
        x.pay(0, 12, 141, 2, 1);
        x.receive(0, 13, 200, 0);
        int[] days = {0, 4, 5, 6, 7, 8, 9, 10, 11, 12, 13, 14, 15, 360, 3599};
        int[] want = {0, 0, 0, 0, 90, 90, 90, 140, 140, 0, 0, 0, 199, 199, 199};
        for (int i = 0; i < days.length; i++) {
            due("21: idle(0, " + days[i] + ")", x.idle(0, days[i]), want[i]);
        }
        hidden("21: early", () -> x.idle(0, -1));
        hidden("21: late", () -> x.idle(0, 3600));
        hidden("21: no WARD", () -> x.idle(1, 0));
        GuardRolls y = told("grace 359;floor 0");
        y.receive(0, 0, 7, 0);
        due("21: ahead of DAY 0", y.idle(0, 358), 0);
        due("21: long grace", y.idle(0, 359), 7);
        y.pay(0, 400, 1, 0, 0);
        y.order(0, 0, 0, 3599, 3600);
        due("21: next YEAR", y.idle(0, 400), 6);
        y.receive(0, 401, 5, 0);
        due("21: looks back over the YEAR", y.idle(0, 759), 6);
        due("21: and no further", y.idle(0, 760), 11);
        GuardRolls z = told(SIMPLE);
        z.receive(0, 0, 7, 0);
        due("21: no grace", z.idle(0, 0), 7);
    }

    private void charge() {
        GuardRolls x = told("small 0;grace 0;floor 0;rate 1;fee 0");
        x.receive(0, 0, 999, 0);
        due("22: cut", x.charge(0, 0), 0);
        x.receive(0, 359, 360, 0);
        due("22: a coin", x.charge(0, 0), 1);
        due("22: YEAR 1", x.charge(0, 1), 1);
        x.receive(0, 360, 99999, 0);
        due("22: YEAR 1", x.charge(0, 1), 101);
        due("22: close", x.close(0), 1360);
        due("22: as it came", x.charge(0, 0), 1);
        due("22: YEAR 1 with it", x.charge(0, 1), 101);
        x.pay(0, 720, 99999, 2, 9);
        x.pay(0, 720, 9999, 2, 8);
        due("22: below 0 is not IDLE", x.charge(0, 2), 0);
        hidden("22: early", () -> x.charge(0, -1));
        hidden("22: late", () -> x.charge(0, 10));
        hidden("22: no WARD", () -> x.charge(1, 0));
        GuardRolls y = told("small 0;grace 0;floor 0;rate 200;fee 0");
        for (int i = 0; i < 40; i++) {
            y.receive(0, 0, 99999, 0);
        }
        due("22: beyond 31 bits", y.charge(0, 0), 799992);
    }

    private void commission() {
        GuardRolls x = told("");
        x.receive(0, 0, 399, 0);
        due("23: cut", x.commission(0, 0), 9);
        x.receive(0, 359, 1, 3);
        due("23: together", x.commission(0, 0), 10);
        x.receive(0, 360, 99999, 0);
        x.pay(0, 360, 5000, 2, 1);
        due("23: YEAR 1", x.commission(0, 1), 2499);
        x.close(0);
        due("23: as it came", x.commission(0, 0), 10);
        due("23: YEAR 9", x.commission(0, 9), 0);
        hidden("23: early", () -> x.commission(0, -1));
        hidden("23: late", () -> x.commission(0, 10));
        hidden("23: no WARD", () -> x.commission(1, 0));
    }

    private void allowance() {
        GuardRolls x = told("");
        x.ward(0, 1);
        x.order(0, 0, 350, 369, 1000);
        due("24: ten DAYS", x.allowance(0, 0, 0), 27);
        due("24: ten more", x.allowance(0, 0, 1), 27);
        x.order(0, 0, 350, 369, 1000);
        due("24: each cut", x.allowance(0, 0, 0), 54);
        x.order(0, 0, 0, 3599, 99999);
        due("24: together", x.allowance(0, 0, 0), 100053);
        due("24: whole YEAR", x.allowance(0, 0, 9), 99999);
        due("24: another kind", x.allowance(0, 1, 0), 0);
        due("24: another WARD", x.allowance(1, 0, 0), 0);
        hidden("24: kind", () -> x.allowance(0, 2, 0));
        hidden("24: kind", () -> x.allowance(0, -1, 0));
        hidden("24: early", () -> x.allowance(0, 0, -1));
        hidden("24: late", () -> x.allowance(0, 0, 10));
        hidden("24: no WARD", () -> x.allowance(2, 0, 0));
    }

    // ---- 25 to 31

    private void throwsAt(GuardRolls x, int entry, int what) {
        boolean thrown = false;
        try {
            x.entry(entry, what);
        } catch (NoSuchElementException e) {
            thrown = true;
        }
        checks.due("25: entry(" + entry + ", " + what + ") throws", thrown, true);
    }

    private void entry() {
        GuardRolls x = told("");
        throwsAt(x, 0, 0);
        x.ward(0, 1);
        x.receive(1, 7, 500, 3);
        x.pay(0, 8, 60, 2, 17);
        x.pay(0, 9, 61, 0, 0);
        x.layOut(1, 10, 200);
        x.callIn(1, 11, 100);
        int[][] want = {{0, 1, 7, 500, 3, NONE}, {1, 0, 8, 60, 2, 17}, {1, 0, 9, 61, 0, 0},
            {2, 1, 10, 200, NONE, NONE}, {3, 1, 11, 100, NONE, NONE}};
        for (int i = 0; i < want.length; i++) {
            for (int what = 0; what < 6; what++) {
                due("25: entry(" + i + ", " + what + ")", x.entry(i, what), want[i][what]);
            }
        }
        throwsAt(x, -1, 0);
        throwsAt(x, 5, 0);
        throwsAt(x, 0, 6);
        throwsAt(x, 0, -1);
        throwsAt(x, Integer.MAX_VALUE, Integer.MIN_VALUE);
        x.undo();
        throwsAt(x, 4, 0);
    }

    private void paymentIs(GuardRolls x, int entry, int... want) {
        for (int what = 0; what < 5; what++) {
            due("26: payment(" + entry + ", " + what + ")", x.payment(entry, what), want[what]);
        }
    }

    private void payment() {
        GuardRolls x = told("");
        x.receive(0, 0, 500, 0);
        x.pay(0, 9, 60, 2, 17);
        x.pay(0, 8, 70, 3, 17);
        x.pay(0, 8, 40, 2, 17);
        x.pay(0, 8, 41, 2, 0);
        x.pay(0, 8, 90, 0, 0);
        x.ratify(5);
        paymentIs(x, 1, 60, 0, 1, 1, 0);
        paymentIs(x, 2, 0, 70, 0, 0, 0);
        paymentIs(x, 3, 40, 0, 0, 1, 0);
        paymentIs(x, 4, 0, 41, 0, 0, 0);
        paymentIs(x, 5, 90, 0, 0, 1, 1);
        none("26: a RECEIPT", () -> x.payment(0, 0));
        none("26: none", () -> x.payment(6, 0));
        none("26: below", () -> x.payment(-1, 0));
        none("26: what", () -> x.payment(1, 5));
        none("26: what", () -> x.payment(1, -1));
    }

    private void account() {
        GuardRolls x = told(SIMPLE);
        x.receive(0, 0, 3600, 0);
        x.pay(0, 359, 100, 2, 1);
        x.pay(0, 359, 70, 2, 1);
        x.layOut(0, 359, 1000);
        x.callIn(0, 360, 300);
        x.receive(0, 719, 2000, 0);
        // YEAR 0: 359 DAYS of 3600 and one of 2500; YEAR 1: 359 of 2800 (with 179), one of 4800.
        accountIs(x, 0, 0, 3600, 100, 70, 1000, 359, 180, 2679);
        accountIs(x, 1, 2500, 2000, 0, 0, -300, 280, 100, 4980);
        due("27: close", x.close(0), 2679);
        accountIs(x, 0, 0, 3600, 100, 70, 1000, 359, 180, 2679);
        accountIs(x, 1, 2679, 2000, 0, 0, -300, 298, 100, 5177);
        due("27: not the YEAR ahead", x.account(0, 2, 0), 4979);
        hidden("27: what", () -> x.account(0, 0, 8));
        hidden("27: what", () -> x.account(0, 0, -1));
        hidden("27: late", () -> x.account(0, 10, 0));
        hidden("27: early", () -> x.account(0, -1, 0));
        hidden("27: no WARD", () -> x.account(1, 0, 0));
    }

    private void accountIs(GuardRolls x, int year, int... want) {
        for (int what = 0; what < 8; what++) {
            due("27: account(0, " + year + ", " + what + ")", x.account(0, year, what),
                    want[what]);
        }
    }

    private void month() {
        GuardRolls x = told(SIMPLE);
        x.receive(0, 29, 500, 0);
        x.receive(0, 30, 100, 0);
        x.pay(0, 59, 650, 2, 1);
        x.pay(0, 60, 10, 2, 1);
        x.receive(0, 3599, 51, 0);
        int[][] want = {{500, 0, 0, 500}, {100, 650, -50, 600}, {0, 0, -50, -50}};
        for (int m = 0; m < 3; m++) {
            for (int what = 0; what < 4; what++) {
                due("28: month(0, " + m + ", " + what + ")", x.month(0, m, what), want[m][what]);
            }
        }
        due("28: the last", x.month(0, 119, 3), 1);
        due("28: the last", x.month(0, 119, 2), -50);
        due("28: the last", x.month(0, 119, 0), 51);
        hidden("28: early", () -> x.month(0, -1, 0));
        hidden("28: late", () -> x.month(0, 120, 0));
        hidden("28: what", () -> x.month(0, 0, 4));
        hidden("28: what", () -> x.month(0, 0, -1));
        hidden("28: no WARD", () -> x.month(1, 0, 0));
    }

    private void extreme() {
        GuardRolls x = told(SIMPLE);
        x.receive(0, 370, 500, 0);
        x.pay(0, 380, 600, 2, 1);
        x.receive(0, 400, 600, 0);
        x.pay(0, 700, 600, 2, 2);
        x.pay(0, 719, 500, 2, 0);
        int[] want = {370, 380, 40, 310};
        for (int what = 0; what < 4; what++) {
            due("29: extreme(0, 1, " + what + ")", x.extreme(0, 1, what), want[what]);
        }
        int[] flat = {720, 720, 360, 0};
        for (int what = 0; what < 4; what++) {
            due("29: extreme(0, 2, " + what + ")", x.extreme(0, 2, what), flat[what]);
        }
        due("29: 0 is not below", x.extreme(0, 0, 2), 0);
        hidden("29: early", () -> x.extreme(0, -1, 0));
        hidden("29: late", () -> x.extreme(0, 10, 0));
        hidden("29: what", () -> x.extreme(0, 0, 4));
        hidden("29: what", () -> x.extreme(0, 0, -1));
        hidden("29: no WARD", () -> x.extreme(1, 0, 0));
    }

    private void secondDay() {
        GuardRolls x = told(SIMPLE);
        x.receive(0, 361, 500, 0);
        x.pay(0, 362, 100, 2, 1);
        due("29: the second DAY", x.extreme(0, 1, 0), 361);
        x.pay(0, 31, 100, 2, 2);
        x.receive(0, 32, 200, 0);
        due("28: the second DAY", x.month(0, 1, 2), -100);
        due("28: the second DAY", x.month(0, 12, 3), 600);
    }

    private void mean() {
        GuardRolls x = told(SIMPLE);
        hidden("30: no CLOSED YEAR", () -> x.mean(0));
        x.receive(0, 0, 3, 0);
        x.pay(0, 359, 10, 2, 1);
        x.pay(0, 359, 10, 2, 1);
        x.receive(0, 360, 2, 0);
        x.receive(0, 720, 1000, 0);
        x.close(0);
        due("30: one YEAR", x.mean(0), -7);
        x.close(0);
        due("30: cut towards 0", x.mean(0), -2);
        x.close(0);
        due("30: three YEARS", x.mean(0), 331);
        hidden("30: no WARD", () -> x.mean(1));
        hidden("30: below", () -> x.mean(-1));
    }

    private void lasts() {
        GuardRolls x = told("grace 0;floor 0;rate 0;fee 0");
        x.pay(0, 0, 10, 2, 1);
        x.receive(0, 400, 110, 0);
        x.receive(0, 500, 1000, 0);
        hidden("31: MEAN isn't told", () -> x.lasts(0, 0));
        x.close(0);
        due("31: mean", x.mean(0), -10);
        none("31: below 0", () -> x.lasts(0, 399));
        due("31: ten", x.lasts(0, 400), 10);
        x.layOut(0, 450, 50);
        due("31: MONEY and OUT", x.lasts(0, 450), 10);
        due("31: at most 100", x.lasts(0, 500), 100);
        x.pay(0, 500, 105, 2, 2);
        due("31: just above", x.lasts(0, 500), 99);
        x.pay(0, 501, 995, 2, 3);
        due("31: nothing left", x.lasts(0, 501), 0);
        x.close(0);
        due("31: mean 0", x.mean(0), 0);
        due("31: for ever", x.lasts(0, 501), 100);
        none("31: below 0", () -> x.lasts(0, 0));
        hidden("31: early", () -> x.lasts(0, -1));
        hidden("31: late", () -> x.lasts(0, 3600));
        hidden("31: no WARD", () -> x.lasts(1, 0));
    }

    // ---- 32 to 37

    private void whose() {
        GuardRolls x = told("");
        x.change(0, 100, 1);
        x.change(0, 200, 0);
        x.change(0, 200, 1);
        x.change(0, 300, 0);
        int[] days = {0, 99, 100, 199, 200, 299, 300, 3599};
        int[] want = {0, 0, 1, 1, 1, 1, 0, 0};
        for (int i = 0; i < days.length; i++) {
            due("32: whose(0, " + days[i] + ")", x.whose(0, days[i]), want[i]);
        }
        none("32: early", () -> x.whose(0, -1));
        none("32: late", () -> x.whose(0, 3600));
        none("32: no WARD", () -> x.whose(1, 0));
        none("32: below", () -> x.whose(-1, 0));
    }

    private void bonded() {
        GuardRolls x = told("cover 3;small 0");
        x.ward(0, 0);
        due("33: nothing", x.bonded(0, 3599, 2), 0);
        x.receive(0, 10, 100, 0);
        x.receive(1, 20, 50, 0);
        x.layOut(0, 30, 60);
        x.pay(0, 40, 30, 2, 1);
        x.change(0, 50, 1);
        x.receive(0, 60, 500, 0);
        int[][] want = {{9, 0, 0, 0}, {10, 300, 300, 10}, {20, 450, 450, 20}, {30, 450, 450, 20},
            {3599, 450, 450, 20}};
        for (int[] w : want) {
            for (int what = 0; what < 3; what++) {
                due("33: bonded(0, " + w[0] + ", " + what + ")", x.bonded(0, w[0], what),
                        w[what + 1]);
            }
        }
        due("33: behind the CHANGE", x.bonded(1, 59, 0), 210);
        due("33: behind the CHANGE", x.bonded(1, 59, 2), 50);
        due("33: not SHORT", x.bonded(1, 59, 1), 0);
        due("33: SHORT", x.bonded(1, 60, 1), 3 * 570 - 500);
        GuardRolls y = told("");
        y.pay(0, 0, 70, 2, 1);
        due("33: below 0", y.bonded(0, 5, 0), 0);
        due("33: below 0", y.bonded(0, 5, 1), 0);
        due("33: below 0", y.bonded(0, 5, 2), NONE);
        y.ward(0, 0);
        y.receive(1, 0, 100, 0);
        due("33: counts as it is", y.bonded(0, 5, 0), 60);
        GuardRolls z = told(SIMPLE);
        z.receive(0, 0, 3600, 0);
        z.close(0);
        due("33: what was brought", z.bonded(0, 360, 2), 360);
        due("33: what was brought", z.bonded(0, 360, 0), 3780);
        due("33: ahead of it", z.bonded(0, 359, 0), 3600);
        hidden("33: what", () -> z.bonded(0, 0, 3));
        hidden("33: what", () -> z.bonded(0, 0, -1));
        hidden("33: early", () -> z.bonded(0, -1, 0));
        hidden("33: late", () -> z.bonded(0, 3600, 0));
        hidden("33: no GUARDIAN", () -> z.bonded(2, 0, 0));
    }

    private void liable() {
        GuardRolls x = told("small 0;grace 0;floor 0;rate 100;fee 100");
        x.receive(0, 0, 1010, 0);
        x.change(0, 90, 1);
        x.pay(0, 89, 11, 2, 0);
        x.pay(0, 90, 22, 2, 0);
        x.pay(0, 3599, 44, 2, 0);
        due("34: DISALLOWED", x.liable(0, 0), 11);
        due("34: DISALLOWED", x.liable(1, 0), 66);
        due("34: nothing CLOSED", x.liable(0, 1), 0);
        due("34: nothing CLOSED", x.liable(1, 2), 0);
        x.close(0);
        due("34: a quarter, cut", x.liable(0, 1), 25);
        due("34: three quarters, cut", x.liable(1, 1), 75);
        due("34: the last DAY's", x.liable(0, 2), 0);
        due("34: the last DAY's", x.liable(1, 2), 101);
        x.change(0, 719, 0);
        x.receive(0, 719, 50, 0);
        x.close(0);
        due("34: the last DAY's", x.liable(0, 2), 5);
        due("34: of each YEAR", x.liable(1, 1), 75 + 100);
        due("34: of each YEAR", x.liable(0, 1), 25);
        x.ward(0, 1);
        x.pay(1, 719, 99, 2, 0);
        x.receive(1, 0, 360, 0);
        x.close(1);
        due("34: of each WARD", x.liable(1, 0), 121);
        due("34: of each WARD", x.liable(0, 0), 55);
        due("34: of each WARD", x.liable(1, 1), 211);
        due("34: of each WARD", x.liable(1, 2), 137);
        // 359 DAYS of 6 and one of 1: a CHARGE of 1, of which nobody has all.
        GuardRolls y = told("small 0;grace 0;floor 0;rate 200;fee 0");
        y.receive(0, 0, 6, 0);
        y.pay(0, 359, 5, 2, 1);
        y.change(0, 359, 1);
        y.close(0);
        due("34: CHARGE", y.charge(0, 0), 1);
        due("34: all but one", y.liable(0, 1), 0);
        due("34: one", y.liable(1, 1), 0);
        hidden("34: what", () -> x.liable(0, 3));
        hidden("34: what", () -> x.liable(0, -1));
        hidden("34: no GUARDIAN", () -> x.liable(2, 0));
        hidden("34: below", () -> x.liable(-1, 0));
    }

    private void dispute() {
        GuardRolls x = told("small 0");
        due("35: none", x.dispute(-1), 0);
        none("35: none", () -> x.dispute(0));
        x.ward(0, 1);
        x.receive(0, 0, 50, 0);
        x.pay(0, 9, 10, 2, 0);
        x.pay(1, 8, 30, 2, 0);
        x.pay(0, 7, 99, 2, 1);
        x.pay(0, 6, 10, 2, 0);
        x.pay(0, 5, 20, 2, 0);
        int[] want = {2, 5, 1, 4, NONE};
        due("35: how many", x.dispute(-1), 4);
        for (int k = 0; k < want.length; k++) {
            due("35: dispute(" + k + ")", x.dispute(k), want[k]);
        }
        x.ratify(2);
        due("35: RATIFIED", x.dispute(0), 5);
        due("35: how many", x.dispute(-1), 3);
        for (int wild : WILD) {
            none("35: wild", () -> x.dispute(wild));
        }
    }

    private void holder() {
        GuardRolls x = told("");
        x.ward(0, 1);
        x.pay(1, 9, 10, 2, 999);
        x.pay(0, 8, 10, 2, 999);
        x.pay(0, 8, 10, 2, 0);
        x.pay(0, 8, 10, 2, 1);
        due("36: first by numbers", x.holder(999), 0);
        due("36: least", x.holder(1), 3);
        none("36: nobody's", () -> x.holder(2));
        none("36: no VOUCHER", () -> x.holder(0));
        none("36: below", () -> x.holder(-1));
        none("36: above", () -> x.holder(1000));
        x.undo();
        none("36: UNDONE", () -> x.holder(1));
    }

    private void again() {
        GuardRolls x = told("");
        due("37: none", x.again(-1), 0);
        x.ward(0, 1);
        x.pay(0, 9, 10, 2, 5);
        x.pay(0, 8, 10, 2, 0);
        x.pay(1, 7, 10, 2, 5);
        x.pay(0, 8, 10, 2, 0);
        x.pay(0, 8, 10, 2, 6);
        x.pay(0, 6, 10, 2, 5);
        due("37: how many", x.again(-1), 2);
        due("37: first", x.again(0), 2);
        due("37: second", x.again(1), 5);
        none("37: no third", () -> x.again(2));
        for (int wild : WILD) {
            none("37: wild", () -> x.again(wild));
        }
    }

    // ---- 38 to 45

    private void needed() {
        GuardRolls x = told("small 0");
        x.ward(0, 1);
        due("38: nothing", x.needed(0, 0), 0);
        x.pay(0, 1, 10, 2, 0);
        x.pay(0, 2, 30, 2, 0);
        x.pay(0, 3, 20, 2, 0);
        x.pay(1, 4, 500, 2, 0);
        x.pay(0, 5, 700, 2, 1);
        int[][] want = {{9999999, 0}, {60, 0}, {59, 1}, {30, 1}, {29, 2}, {10, 2}, {9, 3}, {0, 3}};
        for (int[] w : want) {
            due("38: needed(0, " + w[0] + ")", x.needed(0, w[0]), w[1]);
        }
        due("38: another WARD", x.needed(1, 499), 1);
        x.close(0);
        due("38: CLOSED", x.needed(0, 0), 3);
        hidden("38: below", () -> x.needed(0, -1));
        hidden("38: above", () -> x.needed(0, 10000000));
        hidden("38: no WARD", () -> x.needed(2, 0));
        // RATIFYING one here would leave more of the ALLOWANCE to the other: as they are now.
        GuardRolls y = told("small 0");
        y.order(0, 0, 0, 359, 100);
        y.pay(0, 1, 100, 0, 1);
        y.pay(0, 2, 100, 0, 2);
        y.pay(0, 3, 50, 0, 3);
        due("38: as they are now", y.needed(0, 0), 2);
    }

    private void ranked() {
        GuardRolls x = Checks.under("cover 1");
        none("39: nobody", () -> x.ranked(0, 0));
        x.guardian(300);
        x.guardian(200);
        x.guardian(200);
        x.ward(0, 0);
        ranking(x, 0, 1, 2, 0);
        x.receive(0, 10, 301, 0);
        ranking(x, 9, 1, 2, 0);
        ranking(x, 10, 0, 1, 2);
        x.ward(0, 2);
        x.receive(1, 20, 201, 0);
        ranking(x, 20, 2, 0, 1);
        x.receive(1, 30, 1, 0);
        ranking(x, 30, 2, 0, 1);
        x.receive(0, 40, 5, 0);
        ranking(x, 40, 0, 2, 1);
        none("39: k", () -> x.ranked(0, 3));
        none("39: k", () -> x.ranked(0, -1));
        none("39: early", () -> x.ranked(-1, 0));
        none("39: late", () -> x.ranked(3600, 0));
    }

    private void ranking(GuardRolls x, int day, int... want) {
        for (int k = 0; k < want.length; k++) {
            due("39: ranked(" + day + ", " + k + ")", x.ranked(day, k), want[k]);
        }
    }

    private void missing() {
        GuardRolls x = told("");
        due("40: none", x.missing(-1), 0);
        none("40: none", () -> x.missing(0));
        x.pay(0, 0, 1, 2, 5);
        x.pay(0, 0, 1, 2, 2);
        x.pay(0, 0, 1, 2, 5);
        x.pay(0, 0, 1, 2, 0);
        x.pay(0, 0, 1, 2, 6);
        int[] want = {1, 3, 4, NONE};
        due("40: how many", x.missing(-1), 3);
        for (int k = 0; k < want.length; k++) {
            due("40: missing(" + k + ")", x.missing(k), want[k]);
        }
        x.pay(0, 0, 1, 2, 999);
        due("40: how many", x.missing(-1), 995);
        due("40: the fourth", x.missing(3), 7);
        due("40: the last", x.missing(994), 998);
        none("40: none behind", () -> x.missing(995));
        for (int wild : WILD) {
            none("40: wild", () -> x.missing(wild));
        }
    }

    private void saved() {
        GuardRolls x = told("small 0;grace 10;floor 0;rate 100;fee 0");
        x.receive(0, 0, 3600, 0);
        due("41: charge", x.charge(0, 0), 350);
        due("41: all", x.saved(0, 0, 3600), 350);
        due("41: in grace", x.saved(0, 10, 3600), 350);
        due("41: behind it", x.saved(0, 11, 3600), 349);
        due("41: five DAYS", x.saved(0, 355, 3600), 5);
        due("41: half", x.saved(0, 20, 1800), 170);
        due("41: more than there is", x.saved(0, 20, 99999), 340);
        due("41: YEAR 1 alone", x.saved(0, 360, 3600), 360);
        due("41: a coin", x.saved(0, 359, 1), 1);
        due("41: nothing was LAID OUT", x.out(0, 3599), 0);
        hidden("41: none", () -> x.saved(0, 0, 0));
        hidden("41: much", () -> x.saved(0, 0, 100000));
        hidden("41: early", () -> x.saved(0, -1, 1));
        hidden("41: late", () -> x.saved(0, 3600, 1));
        hidden("41: no WARD", () -> x.saved(1, 0, 1));
        x.close(0);
        hidden("41: CLOSED", () -> x.saved(0, 359, 1));
        // 10 DAYS of 3600 and 350 of 3950 come to 394, 360 of 350 to 35.
        due("41: not CLOSED", x.saved(0, 360, 3600), 359);
    }

    private void bestDay() {
        GuardRolls x = told("small 0;grace 10;floor 0;rate 100;fee 0");
        x.receive(0, 100, 3600, 0);
        due("42: the first", x.bestDay(0, 0, 3600, 0), 0);
        due("42: what is SAVED", x.bestDay(0, 0, 3600, 1), 250);
        due("42: YEAR 1", x.bestDay(0, 1, 1800, 0), 360);
        due("42: YEAR 1", x.bestDay(0, 1, 1800, 1), 180);
        hidden("42: what", () -> x.bestDay(0, 0, 1, 2));
        hidden("42: what", () -> x.bestDay(0, 0, 1, -1));
        hidden("42: none", () -> x.bestDay(0, 0, 0, 0));
        hidden("42: much", () -> x.bestDay(0, 0, 100000, 0));
        hidden("42: early", () -> x.bestDay(0, -1, 1, 0));
        hidden("42: late", () -> x.bestDay(0, 10, 1, 0));
        hidden("42: no WARD", () -> x.bestDay(1, 0, 1, 0));
        x.close(0);
        hidden("42: CLOSED", () -> x.bestDay(0, 0, 1, 0));
        due("42: nothing to save", told("").bestDay(0, 9, 1, 0), 3240);
        due("42: nothing to save", told("").bestDay(0, 9, 1, 1), 0);
    }

    private void ofAge() {
        GuardRolls x = Checks.under("age 25");
        x.guardian(0);
        x.ward(-9000, 0);
        x.ward(3599, 0);
        due("43: DAY 0", x.ofAge(0), 0);
        due("43: far", x.ofAge(1), 12599);
        hidden("43: no WARD", () -> x.ofAge(2));
        hidden("43: below", () -> x.ofAge(-1));
        GuardRolls y = told("age 18");
        y.ward(-9000, 0);
        due("43: ahead of DAY 0", y.ofAge(1), -2520);
    }

    private void due() {
        GuardRolls x = told(SIMPLE);
        x.receive(0, 3599, 700, 0);
        x.pay(0, 3599, 100, 2, 1);
        x.layOut(0, 3599, 250);
        due("44: MONEY and OUT", x.due(0), 600);
        for (int i = 0; i < 9; i++) {
            x.close(0);
        }
        due("44: last close", x.close(0), 350 + 0 - 35);
        due("44: without YEAR 9", x.due(0), 600);
        hidden("44: no WARD", () -> x.due(1));
        hidden("44: below", () -> x.due(-1));
        GuardRolls y = told(SIMPLE);
        y.receive(0, 0, 3600, 0);
        y.close(0);
        due("44: what was brought", y.due(0), 3780);
    }

    private void wardOf() {
        GuardRolls x = told("");
        x.ward(-8000, 1);
        x.change(1, 5, 0);
        x.close(1);
        x.close(1);
        x.settle(1);
        int[] want = {-8000, 2, 1, 1};
        for (int what = 0; what < 4; what++) {
            due("45: wardOf(1, " + what + ")", x.wardOf(1, what), want[what]);
            due("45: wardOf(0, " + what + ")", x.wardOf(0, what), 0);
        }
        hidden("45: what", () -> x.wardOf(0, 4));
        hidden("45: what", () -> x.wardOf(0, -1));
        hidden("45: no WARD", () -> x.wardOf(2, 0));
        hidden("45: below", () -> x.wardOf(-1, 0));
    }

    // ---- 46 to 52

    private void writtenIs(String rules, String want) {
        GuardRolls x = Checks.under(rules);
        due("46: length of " + want, x.written(-1), want.length());
        checks.due("46: " + want, Checks.written(x).equals(want), true);
        none("46: behind", () -> x.written(want.length()));
        for (int wild : WILD) {
            none("46: wild", () -> x.written(wild));
        }
    }

    private void written() {
        writtenIs("", "age 21;small 40;grace 90;floor 100;rate 50;fee 25;cover 2");
        writtenIs(" cover1 ;age 0018;  small 0000", "age 18;small 0;grace 90;floor 100;rate 50;"
                + "fee 25;cover 1");
        String longest = "age 25;small 999;grace 359;floor 9999;rate 200;fee 100;cover 4";
        writtenIs(longest, longest);
    }

    private void undo() {
        GuardRolls x = new GuardRolls();
        due("47: nothing", x.undo(), NONE);
        x.guardian(1);
        x.bond(0, 2);
        due("47: the BOND", x.undo(), 1);
        x.guardian(3);
        due("47: it was 1", x.bond(0, 7), 1);
        x.ward(-9000, 0);
        x.change(0, 10, 1);
        x.receive(0, 0, 100, 0);
        x.order(0, 0, 0, 359, 60);
        x.pay(0, 0, 70, 0, 3);
        x.ratify(1);
        x.close(0);
        x.close(0);
        x.settle(0);
        x.image();
        due("47: ten at most", x.count(1), 10);
        due("47: SETTLED", x.undo(), 9);
        due("47: not SETTLED", x.wardOf(0, 2), 0);
        due("47: closing", x.undo(), 8);
        due("47: closing", x.undo(), 7);
        due("47: none CLOSED", x.wardOf(0, 1), 0);
        due("47: no COMMISSION", x.money(0, 360), 30);
        due("47: RATIFIED", x.undo(), 6);
        due("47: ALLOWED", x.payment(1, 0), 60);
        due("47: ENTRY", x.undo(), 5);
        due("47: ENTRIES", x.count(4), 1);
        due("47: MONEY", x.money(0, 0), 100);
        due("47: ORDER", x.undo(), 4);
        due("47: ALLOWANCE", x.allowance(0, 0, 0), 0);
        due("47: ENTRY", x.undo(), 3);
        due("47: MONEY", x.money(0, 0), 0);
        due("47: CHANGE", x.undo(), 2);
        due("47: his", x.whose(0, 10), 0);
        due("47: WARD", x.undo(), 1);
        due("47: WARDS", x.count(2), 0);
        due("47: BOND", x.undo(), 0);
        due("47: BOND", x.bond(0, 1), NONE);
        due("47: refused is no ACT", x.undo(), NONE);
        due("47: the first one stays", x.count(3), 2);
        due("47: STATUS stays", x.status(3), 1);
        closingUndone();
        GuardRolls y = new GuardRolls();
        y.guardian(1);
        due("47: GUARDIAN", y.undo(), 0);
        due("47: GUARDIANS", y.count(3), 0);
    }

    private void closingUndone() {
        GuardRolls x = told(SIMPLE);
        x.receive(0, 0, 3600, 0);
        due("47: close", x.close(0), 3780);
        x.undo();
        due("47: nothing was brought", x.account(0, 1, 0), 3600);
        due("47: nothing was brought", x.money(0, 360), 3600);
        x.receive(0, 0, 3600, 0);
        due("47: CHARGE anew", x.charge(0, 0), 720);
        due("47: close anew", x.close(0), 7560);
    }

    private void image() {
        GuardRolls x = told("");
        due("48: none", x.image(), 0);
        x.receive(0, 0, 5, 0);
        due("48: one", x.image(), 1);
        x.receive(0, 0, 6, 0);
        due("48: is no ACT", x.count(1), 5);
        due("48: the latest IMAGE", x.back(), 1);
    }

    private void back() {
        GuardRolls x = told(SIMPLE);
        due("49: no IMAGE", x.back(), NONE);
        x.bond(0, 8);
        x.change(0, 100, 1);
        x.receive(0, 0, 3600, 2);
        x.order(0, 0, 0, 359, 60);
        x.pay(0, 5, 70, 0, 3);
        x.pay(0, 5, 80, 1, 0);
        x.ratify(2);
        x.close(0);
        int closed = x.charge(0, 0);
        x.image();
        x.bond(0, 9);
        x.change(0, 700, 0);
        x.ward(-9000, 1);
        x.order(0, 0, 360, 719, 60);
        x.pay(0, 500, 70, 0, 4);
        x.close(0);
        x.undo();
        x.undo();
        x.undo();
        x.order(0, 1, 360, 719, 60);
        x.close(1);
        x.settle(1);
        due("49: ENTRIES", x.back(), 3);
        due("49: no UNDO", x.undo(), NONE);
        due("49: WARDS", x.count(2), 1);
        due("49: ORDERS", x.count(5), 1);
        due("49: no ORDER", x.allowance(0, 1, 1), 0);
        due("49: CHANGES", x.whose(0, 700), 1);
        due("49: CLOSED", x.wardOf(0, 1), 1);
        due("49: CHARGE", x.charge(0, 0), closed);
        due("49: BOND", x.bond(0, 9), 8);
        due("49: ALLOWED", x.payment(1, 0), 60);
        due("49: RATIFIED", x.payment(2, 4), 1);
        due("49: RULES stay", x.rule(4), 100);
        due("49: an ACT", x.count(1), 1);
        due("49: once more", x.back(), 3);
        due("49: BOND again", x.bond(0, 9), 8);
        refused(x, 3, "49: it is so", () -> x.bond(0, 9));
        x.back();
        due("49: STATUS stays", x.status(3), 1);
    }

    /** What is told in the place of what was UNDONE behind the IMAGE is not what it keeps. */
    private void backOverUndone() {
        GuardRolls x = told(SIMPLE);
        x.order(0, 0, 0, 359, 60);
        x.pay(0, 5, 70, 0, 3);
        x.ratify(0);
        x.change(0, 100, 1);
        x.image();
        for (int i = 0; i < 5; i++) {
            x.undo();
        }
        x.ward(-8000, 1);
        due("49: another CHANGE", x.change(0, 200, 0), 1);
        x.order(0, 1, 360, 719, 50);
        x.receive(0, 6, 80, 2);
        due("49: ENTRIES", x.back(), 1);
        due("49: BORN", x.wardOf(0, 0), 0);
        due("49: GUARDIAN", x.whose(0, 99), 0);
        due("49: CHANGE", x.whose(0, 100), 1);
        due("49: ORDER", x.allowance(0, 0, 0), 60);
        due("49: no other", x.allowance(0, 1, 1), 0);
        due("49: ENTRY", x.entry(0, 5), 3);
        due("49: MONEY", x.money(0, 5), -70);
        due("49: RATIFIED", x.payment(0, 4), 1);
    }

    private void status() {
        GuardRolls x = told("");
        for (int i = 0; i < 3; i++) {
            x.close(7);
        }
        x.guardian(-1);
        x.guardian(-1);
        x.close(0);
        x.receive(0, 0, 1, 1);
        due("50: 0", x.status(0), 3);
        due("50: 1", x.status(1), 2);
        due("50: 2", x.status(2), 1);
        due("50: 3", x.status(3), 0);
        due("50: 4", x.status(4), 0);
        none("50: above", () -> x.status(5));
        none("50: below", () -> x.status(-1));
        x.undo();
        x.money(9, 9);
        x.end(500);
        x.rules();
        due("50: stays", x.status(0), 3);
    }

    private void most() {
        GuardRolls x = Checks.under("cover 1;grace 5;floor 0;small 0");
        for (int what = 0; what < 3; what++) {
            due("51: nobody", x.most(0, what), NONE);
        }
        x.guardian(100);
        due("51: a GUARDIAN", x.most(0, 2), 0);
        due("51: no WARD", x.most(0, 1), NONE);
        x.guardian(50);
        x.ward(0, 0);
        x.ward(0, 1);
        due("51: of both the lowest", x.most(0, 0), 0);
        due("51: of both the lowest", x.most(0, 1), 0);
        due("51: of both the lowest", x.most(0, 2), 0);
        x.receive(1, 10, 80, 0);
        due("51: most", x.most(10, 0), 1);
        due("51: not IDLE yet", x.most(14, 1), 0);
        due("51: IDLE", x.most(15, 1), 1);
        due("51: SHORT", x.most(10, 2), 1);
        x.receive(0, 20, 90, 0);
        x.layOut(0, 20, 60);
        due("51: MONEY and OUT", x.most(30, 0), 0);
        due("51: most IDLE", x.most(30, 1), 1);
        due("51: more in all, less SHORT", x.most(30, 2), 1);
        GuardRolls y = told("");
        y.ward(0, 0);
        y.pay(0, 0, 50, 2, 1);
        y.pay(1, 0, 49, 2, 2);
        due("51: below 0", y.most(0, 0), 1);
        none("51: early", () -> x.most(-1, 0));
        none("51: late", () -> x.most(3600, 0));
        none("51: what", () -> x.most(0, 3));
        none("51: what", () -> x.most(0, -1));
    }

    private void count() {
        GuardRolls x = told("");
        x.ward(5, 1);
        x.ward(5, 1);
        x.receive(0, 0, 5, 0);
        x.pay(0, 0, 5, 0, 0);
        x.order(0, 0, 0, 0, 5);
        x.order(0, 0, 0, 0, 5);
        x.order(0, 0, 0, 0, 5);
        x.layOut(0, 0, 5);
        feedText(x, "abc");
        int[] want = {3, 10, 3, 2, 3, 3};
        for (int what = 0; what < 6; what++) {
            due("52: count(" + what + ")", x.count(what), want[what]);
        }
        none("52: above", () -> x.count(6));
        none("52: below", () -> x.count(-1));
    }

    // ---- terms that bind several promises

    private void allowed() {
        GuardRolls x = told("small 0");
        x.ward(0, 0);
        x.order(0, 0, 0, 359, 100);
        x.order(0, 1, 0, 359, 50);
        x.pay(0, 20, 60, 0, 1);
        x.pay(0, 20, 60, 0, 2);
        x.pay(0, 10, 30, 0, 3);
        x.pay(0, 5, 500, 0, 0);
        x.pay(0, 5, 80, 1, 4);
        x.pay(0, 360, 10, 0, 5);
        x.pay(1, 0, 10, 0, 6);
        int[] first = {60, 10, 30, 0, 50, 0, 0};
        allowedAre(x, first);
        x.ratify(2);
        due("2: RATIFIED takes nothing", x.payment(1, 0), 40);
        due("2: RATIFIED takes nothing", x.payment(0, 0), 60);
        x.ratify(0);
        allowedAre(x, 60, 60, 30, 0, 50, 0, 0);
        x.undo();
        x.undo();
        allowedAre(x, first);
        x.pay(0, 0, 45, 0, 7);
        allowedAre(x, 25, 0, 30, 0, 50, 0, 0, 45);
        x.order(0, 0, 360, 719, 7);
        allowedAre(x, 25, 0, 30, 0, 50, 7, 0, 45);
    }

    private void allowedAre(GuardRolls x, int... want) {
        for (int i = 0; i < want.length; i++) {
            due("2: ALLOWED of " + i, x.payment(i, 0), want[i]);
            due("2: DISALLOWED of " + i, x.payment(i, 1), x.entry(i, 3) - want[i]);
        }
    }

    private void closing() {
        GuardRolls x = told("small 0;grace 90;floor 100;rate 50;fee 25");
        x.receive(0, 0, 10000, 0);
        due("2: YEAR 0", x.close(0), 10000 + 371 - 250);
        due("2: on its last DAY", x.money(0, 359), 10000);
        due("2: on the next", x.money(0, 360), 10121);
        due("2: IDLE looks over the YEAR's end", x.idle(0, 449), 9900);
        due("2: IDLE behind it", x.idle(0, 450), 10021);
        // 90 DAYS of 9900, 270 of 10021: 3596670 times 50 by 360000.
        due("2: CHARGE of YEAR 1", x.charge(0, 1), 499);
        x.ward(0, 1);
        due("2: the other WARD", x.receive(1, 0, 5, 0), 1);
    }

    private void fullRooms() {
        GuardRolls x = told("");
        for (int i = 0; i < 40; i++) {
            due("1: ENTRY", x.receive(0, 400, 10, 0), i);
        }
        refused(x, 4, "11: no room", () -> x.receive(0, 400, 10, 0));
        refused(x, 4, "12: no room", () -> x.pay(0, 400, 10, 0, 0));
        refused(x, 4, "13: no room", () -> x.layOut(0, 400, 10));
        refused(x, 3, "13: can't first", () -> x.layOut(0, 400, 401));
        refused(x, 3, "14: can't first", () -> x.callIn(0, 400, 1));
        for (int i = 1; i <= 12; i++) {
            due("1: ORDER", x.order(0, 0, 400, 401, 10), i);
        }
        refused(x, 4, "15: no room", () -> x.order(0, 0, 400, 401, 10));
        x.close(0);
        refused(x, 2, "11: CLOSED first", () -> x.receive(0, 0, 10, 0));
        refused(x, 2, "15: CLOSED first", () -> x.order(0, 0, 0, 401, 10));
        GuardRolls y = told("");
        y.receive(0, 0, 99999, 0);
        y.layOut(0, 0, 50000);
        for (int i = 2; i < 40; i++) {
            y.callIn(0, 0, 1);
        }
        refused(y, 4, "14: no room", () -> y.callIn(0, 0, 1));
        due("14: called in", y.out(0, 0), 50000 - 38);
    }
}
