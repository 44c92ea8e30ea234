/** The edges of the Terms' second block and of promises 19 to 31: what is ALLOWED, and MONEY. */
public final class MoneyEdgeTest extends Edges {
    private static final Scene BARE = under("age 18;small 0;grace 0;floor 0;rate 0;fee 0");
    /** Four WARDS, with RECEIPTS at the edges of DAYS, YEARS: WARD w has all of it w + 1 times. */
    private static final Scene WIDE = MoneyEdgeTest::wide;
    /** 40 ENTRIES: a RECEIPT, LAID OUT, CALLED IN, PAYMENTS with VOUCHERS 1 to 37. */
    private static final Scene FORTY = MoneyEdgeTest::forty;

    public static void main(String[] args) {
        MoneyEdgeTest test = new MoneyEdgeTest();
        test.terms();
        test.money();
        test.out();
        test.idle();
        test.charge();
        test.commission();
        test.allowance();
        test.entry();
        test.payment();
        test.account();
        test.month();
        test.extreme();
        test.mean();
        test.lasts();
        test.checks.end("MoneyEdgeTest");
    }

    private void terms() {
        good();
        backed();
        shareOfAnOrder();
        ordersTogether();
        allOrWhatIsLeft();
        byDaysThenNumbers();
        toldFromTheLast();
        orderBehindPayments();
        notOfTheAllowance();
        moneyAtTheEndOfADay();
        whatClosedYearsBrought();
        outAtTheEndOfADay();
        graceDays();
        aheadOfDayNought();
        floor();
        chargeIsCut();
        commissionIsCut();
        largestSums();
    }

    // ---- what is told

    /** One GUARDIAN with one WARD, who has nothing, under these RULES. */
    private static Scene under(String rules) {
        return () -> {
            GuardRolls x = Checks.under(rules);
            x.guardian(0);
            x.ward(0, 0);
            return x;
        };
    }

    private static GuardRolls wide() {
        GuardRolls x = Checks.under("age 18;small 0;grace 0;floor 0;rate 1;fee 100;cover 1");
        x.guardian(0);
        int[] days = {0, 1, 360, 2880, 3240, 3598, 3599};
        int[] amounts = {1000, 10, 2000, 4000, 8000, 20, 40};
        for (int w = 0; w < 4; w++) {
            x.ward(0, 0);
            for (int i = 0; i < days.length; i++) {
                x.receive(w, days[i], amounts[i] * (w + 1), 0);
            }
        }
        x.image();
        for (int w = 0; w < 4; w += 3) {
            x.layOut(w, 0, w + 1);
            x.layOut(w, 1, 2 * (w + 1));
            x.layOut(w, 3598, 3 * (w + 1));
            x.layOut(w, 3599, 4 * (w + 1));
        }
        x.order(1, 0, 0, 359, 5);
        x.order(1, 0, 360, 719, 6);
        x.order(1, 0, 2880, 3239, 7);
        x.order(1, 0, 3240, 3599, 8);
        x.order(3, 0, 0, 3599, 9);
        x.order(1, 1, 0, 3599, 11);
        return x;
    }

    private static GuardRolls forty() {
        GuardRolls x = under("small 0").get();
        x.receive(0, 7, 500, 3);
        x.layOut(0, 8, 50);
        x.callIn(0, 9, 20);
        for (int v = 1; v <= 37; v++) {
            x.pay(0, 10 + v, v, 2, v);
        }
        return x;
    }

    // ---- GOOD, BACKED

    /** "a VOUCHER that no PAYMENT with a lower number (of any WARD) has" */
    private void good() {
        Scene one = but(BARE, x -> x.ward(0, 0), x -> x.pay(1, 3599, 5, 2, 7));
        answers("GOOD: the first", one, x -> x.payment(0, 2), 1);
        Scene two = but(one, x -> x.pay(0, 0, 6, 3, 7));
        answers("GOOD: the first still", two, x -> x.payment(0, 2), 1);
        answers("GOOD: not the second, of another WARD, on an earlier DAY", two,
                x -> x.payment(1, 2), 0);
        answers("GOOD: nor a third", but(two, x -> x.pay(0, 0, 6, 3, 7)),
                x -> x.payment(2, 2), 0);
        answers("GOOD: the VOUCHER below", but(two, x -> x.pay(0, 0, 6, 3, 6)),
                x -> x.payment(2, 2), 1);
        answers("GOOD: the VOUCHER above", but(two, x -> x.pay(0, 0, 6, 3, 8)),
                x -> x.payment(2, 2), 1);
        answers("GOOD: UNDONE and again",
                but(one, x -> x.undo(), x -> x.pay(0, 0, 6, 3, 7)), x -> x.payment(0, 2), 1);
        answers("GOOD: none is not", but(BARE, x -> x.pay(0, 0, 6, 3, 0)),
                x -> x.payment(0, 2), 0);
        answers("GOOD: a DISALLOWED one has it too", but(BARE, x -> x.pay(0, 0, 6, 0, 7),
                x -> x.pay(0, 0, 6, 2, 7)), x -> x.payment(1, 2), 0);
        answers("GOOD: RATIFIED or not", but(two, x -> x.ratify(1)), x -> x.payment(1, 2), 0);
    }

    /** "or of no more than small" */
    private void backed() {
        for (int small : new int[] {0, 1, 2, 40, 998, 999}) {
            Scene rules = under("small " + small);
            for (int amount = Math.max(1, small - 1); amount <= small + 1; amount++) {
                int a = amount;
                Scene paid = but(rules, x -> x.pay(0, 0, a, 2, 0));
                int want = amount <= small ? 1 : 0;
                String name = "BACKED: " + amount + " of small " + small;
                answers(name, paid, x -> x.payment(0, 3), want);
                answers(name, paid, x -> x.payment(0, 0), want * amount);
                answers(name, paid, x -> x.payment(0, 1), amount - want * amount);
                answers(name, paid, x -> x.payment(0, 2), 0);
                answers(name + " RATIFIED", but(paid, x -> x.ratify(0)),
                        x -> x.payment(0, 3), 1);
                answers(name + " with a VOUCHER", but(rules, x -> x.pay(0, 0, a, 2, 999)),
                        x -> x.payment(0, 3), 1);
            }
        }
    }

    // ---- ALLOWANCE, ALLOWED

    private void shareIs(int first, int last, int amount, int year, int want) {
        answers("ALLOWANCE of YEAR " + year + ": " + amount + " from " + first + " to " + last,
                but(BARE, x -> x.order(0, 1, first, last, amount)), x -> x.allowance(0, 1, year),
                want);
    }

    /** "its amount times its DAYS in that YEAR by 360 (cut)" */
    private void shareOfAnOrder() {
        int[] amounts = {1, 359, 360, 361, 719, 720, 99999};
        int[] shares = {0, 0, 1, 1, 1, 2, 277};
        for (int i = 0; i < amounts.length; i++) {
            shareIs(0, 0, amounts[i], 0, shares[i]);
            shareIs(359, 359, amounts[i], 0, shares[i]);
            shareIs(360, 360, amounts[i], 0, 0);
            shareIs(359, 359, amounts[i], 1, 0);
            shareIs(359, 360, amounts[i], 0, shares[i]);
            shareIs(359, 360, amounts[i], 1, shares[i]);
            shareIs(3599, 3599, amounts[i], 9, shares[i]);
            shareIs(0, 359, amounts[i], 0, amounts[i]);
            shareIs(0, 3599, amounts[i], 0, amounts[i]);
            shareIs(0, 3599, amounts[i], 9, amounts[i]);
        }
        shareIs(0, 358, 360, 0, 359);
        shareIs(1, 359, 360, 0, 359);
        shareIs(1, 358, 360, 0, 358);
        shareIs(0, 358, 1, 0, 0);
        shareIs(0, 358, 99999, 0, 99721);
        shareIs(358, 361, 360, 0, 2);
        shareIs(358, 361, 360, 1, 2);
        shareIs(358, 361, 360, 2, 0);
        shareIs(358, 721, 360, 1, 360);
        shareIs(358, 721, 360, 2, 2);
    }

    /** "of each ORDER .. together": each is cut by itself. */
    private void ordersTogether() {
        Scene two = but(BARE, x -> x.order(0, 0, 0, 0, 359), x -> x.order(0, 0, 0, 0, 359));
        answers("ALLOWANCE: each is cut", two, x -> x.allowance(0, 0, 0), 0);
        answers("ALLOWANCE: together", but(two, x -> x.order(0, 0, 5, 5, 360),
                x -> x.order(0, 0, 0, 359, 4)), x -> x.allowance(0, 0, 0), 5);
        answers("ALLOWANCE: of another kind", but(two, x -> x.order(0, 1, 5, 5, 360)),
                x -> x.allowance(0, 0, 0), 0);
        Scene all = but(BARE, x -> {
            for (int i = 0; i < 12; i++) {
                x.order(0, 0, 0, 3599, 99999);
            }
            return 0;
        });
        answers("ALLOWANCE: twelve", all, x -> x.allowance(0, 0, 9), 1199988);
        answers("ALLOWANCE: eleven", but(all, x -> x.undo()), x -> x.allowance(0, 0, 9),
                1099989);
        answers("ALLOWED: of twelve", but(all, x -> x.pay(0, 0, 99999, 0, 1)),
                x -> x.payment(0, 0), 99999);
    }

    private static Scene hundredAllowed() {
        return but(BARE, x -> x.order(0, 0, 0, 359, 100), x -> x.order(0, 1, 360, 719, 100));
    }

    /** "all or what is left of the ALLOWANCE of its YEAR, whichever is less" */
    private void allOrWhatIsLeft() {
        int[] amounts = {1, 99, 100, 101, 99999};
        for (int a : amounts) {
            int want = Math.min(a, 100);
            answers("ALLOWED: keep " + a, but(hundredAllowed(), x -> x.pay(0, 0, a, 0, 1)),
                    x -> x.payment(0, 0), want);
            answers("DISALLOWED: keep " + a,
                    but(hundredAllowed(), x -> x.pay(0, 359, a, 0, 1)), x -> x.payment(0, 1),
                    a - want);
            answers("ALLOWED: school " + a,
                    but(hundredAllowed(), x -> x.pay(0, 719, a, 1, 1)), x -> x.payment(0, 0), want);
            answers("ALLOWED: school ahead of the ORDER " + a,
                    but(hundredAllowed(), x -> x.pay(0, 359, a, 1, 1)), x -> x.payment(0, 0), 0);
            answers("ALLOWED: keep behind the ORDER " + a,
                    but(hundredAllowed(), x -> x.pay(0, 360, a, 0, 1)), x -> x.payment(0, 0), 0);
            answers("ALLOWED: repairs " + a, but(BARE, x -> x.pay(0, 0, a, 2, 1)),
                    x -> x.payment(0, 0), a);
            answers("ALLOWED: fees " + a, but(BARE, x -> x.pay(0, 0, a, 3, 1)),
                    x -> x.payment(0, 0), a);
            answers("ALLOWED: no ORDER " + a, but(BARE, x -> x.pay(0, 0, a, 0, 1)),
                    x -> x.payment(0, 0), 0);
        }
        for (int first = 98; first <= 101; first++) {
            int a = first;
            Scene two = but(hundredAllowed(), x -> x.pay(0, 5, a, 0, 1),
                    x -> x.pay(0, 6, 1, 0, 2));
            answers("ALLOWED: 1 behind " + a, two, x -> x.payment(1, 0), a < 100 ? 1 : 0);
            answers("ALLOWED: " + a, two, x -> x.payment(0, 0), Math.min(a, 100));
        }
    }

    /** "as PAYMENTS of that WARD, kind and YEAR go by DAYS, then numbers" */
    private void byDaysThenNumbers() {
        Scene paid = but(hundredAllowed(), x -> x.pay(0, 100, 70, 0, 1),
                x -> x.pay(0, 100, 60, 0, 2));
        answers("ALLOWED: lower number", paid, x -> x.payment(0, 0), 70);
        answers("ALLOWED: higher number", paid, x -> x.payment(1, 0), 30);
        Scene ahead = but(paid, x -> x.pay(0, 99, 50, 0, 3));
        answers("ALLOWED: the DAY ahead", ahead, x -> x.payment(2, 0), 50);
        answers("ALLOWED: then the lower number", ahead, x -> x.payment(0, 0), 50);
        answers("ALLOWED: then the higher", ahead, x -> x.payment(1, 0), 0);
        Scene same = but(paid, x -> x.pay(0, 100, 50, 0, 3));
        answers("ALLOWED: the same DAY", same, x -> x.payment(2, 0), 0);
        answers("ALLOWED: the same DAY", same, x -> x.payment(1, 0), 30);
        Scene behind = but(paid, x -> x.pay(0, 101, 50, 0, 3));
        answers("ALLOWED: the DAY behind", behind, x -> x.payment(2, 0), 0);
        Scene first = but(paid, x -> x.pay(0, 0, 100, 0, 3));
        answers("ALLOWED: DAY 0 takes all", first, x -> x.payment(2, 0), 100);
        answers("ALLOWED: DAY 0 takes all", first, x -> x.payment(0, 0), 0);
        answers("ALLOWED: MONEY goes with it", first, x -> x.money(0, 100), -100);
    }

    /** What is told last may be the first to take: ten PAYMENTS, told from the last DAY on. */
    private void toldFromTheLast() {
        Scene ten = but(hundredAllowed(), x -> {
            for (int i = 0; i < 10; i++) {
                x.pay(0, 90 - i / 2, 30, 0, i + 1);
            }
            return 0;
        });
        // DAY 86: 8, 9; DAY 87: 6, 7.
        int[] want = {0, 0, 0, 0, 0, 0, 30, 10, 30, 30};
        for (int i = 0; i < want.length; i++) {
            int number = i;
            answers("ALLOWED: told from the last, " + i, ten, x -> x.payment(number, 0), want[i]);
        }
        answers("ALLOWED: UNDONE", but(ten, x -> x.undo()), x -> x.payment(7, 0), 30);
        answers("ALLOWED: UNDONE", but(ten, x -> x.undo()), x -> x.payment(4, 0), 10);
    }

    /** An ORDER counts for PAYMENTS that were there, and no more when it is UNDONE. */
    private void orderBehindPayments() {
        Scene paid = but(BARE, x -> x.pay(0, 5, 100, 0, 1));
        answers("ALLOWED: no ORDER yet", paid, x -> x.payment(0, 0), 0);
        Scene ordered = but(paid, x -> x.order(0, 0, 0, 359, 60));
        answers("ALLOWED: by an ORDER behind it", ordered, x -> x.payment(0, 0), 60);
        answers("MONEY: by an ORDER behind it", ordered, x -> x.money(0, 5), -60);
        Scene two = but(ordered, x -> x.order(0, 0, 0, 359, 60));
        answers("ALLOWED: by two", two, x -> x.payment(0, 0), 100);
        answers("ALLOWED: one UNDONE", but(two, x -> x.undo()), x -> x.payment(0, 0), 60);
        answers("ALLOWED: both UNDONE", but(two, x -> x.undo(), x -> x.undo()),
                x -> x.payment(0, 0), 0);
        answers("ALLOWED: RATIFIED UNDONE", but(ordered, x -> x.ratify(0), x -> x.undo()),
                x -> x.payment(0, 0), 60);
    }

    /** What takes nothing of an ALLOWANCE: RATIFIED, not BACKED, of another WARD, kind or YEAR. */
    private void notOfTheAllowance() {
        Scene last = but(hundredAllowed(), x -> x.ward(0, 0), x -> x.pay(0, 300, 100, 0, 1));
        leavesAll(last, x -> x.pay(0, 5, 60, 0, 0), 1);
        leavesAll(last, x -> x.pay(0, 5, 60, 0, 1), 1);
        leavesAll(last, x -> x.pay(0, 5, 60, 1, 2), 1);
        leavesAll(last, x -> x.pay(0, 5, 60, 2, 2), 1);
        leavesAll(last, x -> x.pay(1, 5, 60, 0, 2), 1);
        leavesAll(last, x -> x.pay(0, 360, 60, 0, 2), 1);
        leavesAll(last, x -> x.pay(0, 301, 60, 0, 2), 1);
        leavesAll(last, x -> x.pay(0, 299, 60, 0, 2), 0);
        leavesAll(last, x -> x.ratify(x.pay(0, 5, 60, 0, 0)), 1);
        leavesAll(last, x -> x.ratify(x.pay(0, 5, 60, 0, 2)), 1);
        leavesAll(last, x -> x.ratify(x.pay(0, 5, 60, 0, 2)) + x.undo(), 0);
        Scene ratified = but(last, x -> x.pay(0, 5, 60, 0, 2), x -> x.ratify(1));
        answers("ALLOWED: RATIFIED, all of it", ratified, x -> x.payment(1, 0), 60);
        answers("ALLOWED: all of the other", ratified, x -> x.payment(0, 0), 100);
        answers("ALLOWED: too much RATIFIED", but(last, x -> x.pay(0, 5, 99999, 0, 0),
                x -> x.ratify(1)), x -> x.payment(1, 0), 99999);
    }

    private void leavesAll(Scene scene, Call call, int all) {
        answers("ALLOWED: what is left", but(scene, call), x -> x.payment(0, 0),
                all == 1 ? 100 : 40);
    }

    // ---- MONEY, OUT

    private void moneyIs(String name, Scene scene, int... daysAndMoney) {
        for (int i = 0; i < daysAndMoney.length; i += 2) {
            int day = daysAndMoney[i];
            answers("MONEY: " + name + " on DAY " + day, scene, x -> x.money(0, day),
                    daysAndMoney[i + 1]);
        }
    }

    /** "on a DAY (at its end) .. to that DAY" */
    private void moneyAtTheEndOfADay() {
        moneyIs("nothing", BARE, 0, 0, 3599, 0);
        moneyIs("RECEIPT", but(BARE, x -> x.receive(0, 100, 7, 0)), 0, 0, 99, 0, 100, 7, 101, 7,
                3599, 7);
        moneyIs("RECEIPT", but(BARE, x -> x.receive(0, 0, 7, 0)), 0, 7, 1, 7, 3599, 7);
        moneyIs("RECEIPT", but(BARE, x -> x.receive(0, 3599, 7, 0)), 0, 0, 3598, 0, 3599, 7);
        moneyIs("PAYMENT", but(BARE, x -> x.pay(0, 100, 7, 2, 1)), 99, 0, 100, -7, 101, -7, 3599,
                -7);
        moneyIs("DISALLOWED", but(BARE, x -> x.pay(0, 100, 7, 2, 0)), 99, 0, 100, 0, 3599, 0);
        moneyIs("partly ALLOWED", but(hundredAllowed(), x -> x.pay(0, 100, 130, 0, 1)), 99, 0, 100,
                -100, 101, -100);
        Scene out = but(BARE, x -> x.receive(0, 0, 100, 0), x -> x.layOut(0, 100, 60),
                x -> x.callIn(0, 200, 50));
        moneyIs("LAID OUT, CALLED IN", out, 99, 100, 100, 40, 101, 40, 199, 40, 200, 90, 201, 90);
        moneyIs("of another WARD", but(BARE, x -> x.ward(0, 0), x -> x.receive(1, 0, 9, 0)), 0, 0);
    }

    /** "what CLOSED YEARS brought that ended ahead of that DAY" */
    private void whatClosedYearsBrought() {
        Scene open = but(under("small 0;grace 0;floor 0;rate 100;fee 50"),
                x -> x.receive(0, 0, 1000, 0));
        moneyIs("none CLOSED", open, 359, 1000, 360, 1000, 3599, 1000);
        Scene one = but(open, x -> x.close(0));
        moneyIs("YEAR 0 CLOSED", one, 0, 1000, 358, 1000, 359, 1000, 360, 1050, 361, 1050, 719,
                1050, 720, 1050, 3599, 1050);
        Scene two = but(one, x -> x.close(0));
        moneyIs("YEAR 1 CLOSED", two, 359, 1000, 360, 1050, 719, 1050, 720, 1155, 3599, 1155);
        moneyIs("YEAR 1 UNDONE", but(two, x -> x.undo()), 719, 1050, 720, 1050);
        Scene nine = but(open, x -> {
            for (int i = 0; i < 9; i++) {
                x.close(0);
            }
            return 0;
        });
        Scene ten = but(nine, x -> x.close(0));
        GuardRolls x = nine.get();
        int last = x.money(0, 3240);
        due("MONEY: YEAR 8 CLOSED", last, x.money(0, 3239) + x.charge(0, 8));
        due("MONEY: to the last", x.money(0, 3599), last);
        answers("MONEY: YEAR 9 CLOSED", ten, y -> y.money(0, 3599), last);
        answers("MONEY: and brought", ten, y -> y.account(0, 9, 7) - y.money(0, 3599),
                last / 10);
    }

    private void outAtTheEndOfADay() {
        Scene out = but(BARE, x -> x.receive(0, 0, 100, 0), x -> x.layOut(0, 100, 60),
                x -> x.callIn(0, 200, 50), x -> x.callIn(0, 300, 10), x -> x.layOut(0, 3599, 1));
        int[][] want = {{0, 0}, {99, 0}, {100, 60}, {101, 60}, {199, 60}, {200, 10}, {201, 10},
            {299, 10}, {300, 0}, {3598, 0}, {3599, 1}};
        for (int[] w : want) {
            answers("OUT on DAY " + w[0], out, x -> x.out(0, w[0]), w[1]);
        }
        answers("OUT below 0", but(out, x -> x.callIn(0, 150, 60)), x -> x.out(0, 200), -50);
    }

    // ---- IDLE

    private void idleIs(String name, Scene scene, int... daysAndIdle) {
        for (int i = 0; i < daysAndIdle.length; i += 2) {
            int day = daysAndIdle[i];
            answers("IDLE: " + name + " on DAY " + day, scene, x -> x.idle(0, day),
                    daysAndIdle[i + 1]);
        }
    }

    /** "the least MONEY of that DAY and of the grace DAYS ahead of it" */
    private void graceDays() {
        for (int grace : new int[] {0, 1, 2, 30, 358, 359}) {
            Scene dip = but(under("grace " + grace + ";floor 0;small 0"),
                    x -> x.receive(0, 0, 100, 0), x -> x.pay(0, 1000, 70, 2, 1),
                    x -> x.receive(0, 1001, 500, 0));
            String name = "grace " + grace;
            idleIs(name, dip, 999, 100, 1000, 30, 1000 + grace, 30, 1001 + grace, 530);
            Scene rise = but(under("grace " + grace + ";floor 0;small 0"),
                    x -> x.receive(0, 1000, 100, 0), x -> x.receive(0, 1001, 5, 0));
            idleIs(name, rise, 999, 0, 999 + grace, 0, 1000 + grace, 100, 1001 + grace, 105);
            Scene fall = but(under("grace " + grace + ";floor 0;small 0"),
                    x -> x.receive(0, 0, 100, 0), x -> x.pay(0, 1000, 1, 2, 1));
            idleIs(name, fall, 999, 100, 1000, 99, 1001, 99, 3599, 99);
        }
    }

    /** "(ahead of DAY 0: 0)" */
    private void aheadOfDayNought() {
        for (int grace : new int[] {0, 1, 2, 30, 358, 359}) {
            Scene first = but(under("grace " + grace + ";floor 0"),
                    x -> x.receive(0, 0, 100, 0));
            for (int day = 0; day <= grace + 1; day += day == 1 && grace > 2 ? grace - 2 : 1) {
                idleIs("grace " + grace, first, day, day < grace ? 0 : 100);
            }
            idleIs("grace " + grace, first, 3599, 100);
            Scene below = but(under("grace " + grace + ";floor 0"),
                    x -> x.pay(0, 0, 100, 2, 1));
            idleIs("below 0, grace " + grace, below, 0, 0, grace, 0, 3599, 0);
        }
    }

    /** "less floor; 0, if that is below" */
    private void floor() {
        for (int floor : new int[] {0, 1, 100, 9998, 9999}) {
            for (int more = -1; more <= 2; more++) {
                int amount = floor + more;
                if (amount >= 1) {
                    idleIs("floor " + floor, but(under("grace 0;floor " + floor),
                            x -> x.receive(0, 5, amount, 0)), 4, 0, 5, Math.max(0, more), 3599,
                            Math.max(0, more));
                }
            }
            idleIs("floor " + floor, but(under("grace 0;floor " + floor),
                    x -> x.pay(0, 5, 1, 2, 1)), 5, 0);
        }
    }

    // ---- CHARGE, COMMISSION

    private void chargeIs(String rules, int amount, int day, int want) {
        answers("CHARGE: " + rules + " of " + amount + " from DAY " + day,
                but(under(rules), x -> x.receive(0, day, amount, 0)), x -> x.charge(0, 0), want);
    }

    /** "IDLE of its DAYS together, times rate, by 360,000 (cut)" */
    private void chargeIsCut() {
        String plain = "small 0;grace 0;floor 0;fee 0;rate ";
        chargeIs(plain + 0, 99999, 0, 0);
        chargeIs(plain + 1, 999, 0, 0);
        chargeIs(plain + 1, 1000, 0, 1);
        chargeIs(plain + 1, 1001, 0, 1);
        chargeIs(plain + 1, 1999, 0, 1);
        chargeIs(plain + 1, 2000, 0, 2);
        chargeIs(plain + 200, 4, 0, 0);
        chargeIs(plain + 200, 5, 0, 1);
        chargeIs(plain + 200, 99999, 0, 19999);
        chargeIs(plain + 1, 1000, 1, 0);
        chargeIs(plain + 100, 3599, 359, 0);
        chargeIs(plain + 100, 3600, 359, 1);
        chargeIs(plain + 100, 99999, 360, 0);
        chargeIs("grace 359;floor 0;rate 100", 3599, 0, 0);
        chargeIs("grace 359;floor 0;rate 100", 3600, 0, 1);
        chargeIs("grace 359;floor 0;rate 100", 99999, 1, 0);
        chargeIs("grace 0;floor 10;rate 100", 19, 0, 0);
        chargeIs("grace 0;floor 10;rate 100", 20, 0, 1);
    }

    private void commissionIs(String fee, int amount, int day, int year, int want) {
        answers("COMMISSION: " + fee + " of " + amount + " on DAY " + day,
                but(under(fee), x -> x.receive(0, day, amount, 0)), x -> x.commission(0, year),
                want);
    }

    /** "its RECEIPTS together, times fee, by 1,000 (cut)" */
    private void commissionIsCut() {
        commissionIs("fee 0", 99999, 0, 0, 0);
        commissionIs("fee 1", 999, 0, 0, 0);
        commissionIs("fee 1", 1000, 0, 0, 1);
        commissionIs("fee 1", 1001, 0, 0, 1);
        commissionIs("fee 1", 1999, 0, 0, 1);
        commissionIs("fee 1", 2000, 0, 0, 2);
        commissionIs("fee 100", 9, 0, 0, 0);
        commissionIs("fee 100", 10, 0, 0, 1);
        commissionIs("fee 100", 99999, 0, 0, 9999);
        commissionIs("fee 100", 10, 359, 0, 1);
        commissionIs("fee 100", 10, 360, 0, 0);
        commissionIs("fee 100", 10, 359, 1, 0);
        commissionIs("fee 100", 10, 360, 1, 1);
        commissionIs("fee 100", 10, 3599, 9, 1);
        answers("COMMISSION: cut together", but(under("fee 100"), x -> x.receive(0, 0, 5, 0),
                x -> x.receive(0, 359, 5, 3)), x -> x.commission(0, 0), 1);
        answers("COMMISSION: of RECEIPTS alone", but(under("fee 100"),
                x -> x.receive(0, 0, 9, 0), x -> x.layOut(0, 0, 9), x -> x.callIn(0, 0, 9)),
                x -> x.commission(0, 0), 0);
    }

    /** 40 ENTRIES of 99,999 that grow by a fifth each YEAR: no sum may wrap around. */
    private void largestSums() {
        GuardRolls x = under("small 0;grace 0;floor 0;rate 200;fee 0;cover 4").get();
        for (int i = 0; i < 40; i++) {
            x.receive(0, 0, 99999, 0);
        }
        long money = 40L * 99999;
        long ahead = 0;
        for (int year = 0; year < 10; year++) {
            due("CHARGE of YEAR " + year, x.charge(0, year), money / 5);
            due("SAVED in YEAR " + year, x.saved(0, 360 * year, 99999),
                    money / 5 - (money - 99999) / 5);
            ahead = money;
            money += money / 5;
            due("CLOSED YEAR " + year, x.close(0), money);
        }
        due("MONEY", x.money(0, 3599), ahead);
        due("CHARGES", x.liable(0, 1), money - 40L * 99999);
        due("BOND", x.bonded(0, 3599, 0), 4 * ahead);
        GuardRolls y = BARE.get();
        for (int i = 0; i < 40; i++) {
            y.pay(0, 0, 99999, 2, i + 1);
        }
        due("MONEY below 0", y.money(0, 3599), -40L * 99999);
        due("below 0", y.extreme(0, 9, 2), 360);
        due("close", y.close(0), -40L * 99999);
        due("MEAN", y.mean(0), -40L * 99999);
    }

    // ---- 19 to 24: arguments

    private void money() {
        int[] days = {0, 1, 3598, 3599};
        int[] want = {1000, 1010, 15030, 15070};
        told("19: DAY", WIDE, 0, 3599, d -> x -> x.money(1, d), d -> 2 * at(d, days, want),
                HIDDEN);
        told("19: WARD", WIDE, 0, 3, w -> x -> x.money(w, 3000), w -> (w + 1) * 7010
                - (w == 0 || w == 3 ? 3 * (w + 1) : 0), HIDDEN);
        not("19: nobody", NOBODY, x -> x.money(0, 0), HIDDEN);
        not("19: no second", BARE, x -> x.money(1, 0), HIDDEN);
        not("19: nothing", BARE, x -> x.money(0, 0), 0);
    }

    private void out() {
        int[] days = {0, 1, 3598, 3599};
        int[] want = {4, 12, 24, 40};
        told("20: DAY", WIDE, 0, 3599, d -> x -> x.out(3, d), d -> at(d, days, want), HIDDEN);
        told("20: WARD", WIDE, 0, 3, w -> x -> x.out(w, 3599),
                w -> w == 0 || w == 3 ? 10 * (w + 1) : 0, HIDDEN);
        not("20: nobody", NOBODY, x -> x.out(0, 0), HIDDEN);
        not("20: no second", BARE, x -> x.out(1, 0), HIDDEN);
    }

    private void idle() {
        int[] days = {0, 1, 3598, 3599};
        int[] want = {999, 1007, 15024, 15060};
        told("21: DAY", WIDE, 0, 3599, d -> x -> x.idle(0, d), d -> at(d, days, want),
                HIDDEN);
        told("21: WARD", WIDE, 0, 3, w -> x -> x.idle(w, 360), w -> (w + 1) * 3010
                - (w == 0 || w == 3 ? 3 * (w + 1) : 0), HIDDEN);
        not("21: nobody", NOBODY, x -> x.idle(0, 0), HIDDEN);
        not("21: no second", BARE, x -> x.idle(1, 0), HIDDEN);
    }

    private void charge() {
        int[] years = {0, 1, 8, 9};
        int[] want = {2, 6, 14, 30};
        told("22: YEAR", WIDE, 0, 9, y -> x -> x.charge(1, y), y -> at(y, years, want),
                HIDDEN);
        told("22: WARD", WIDE, 0, 3, w -> x -> x.charge(w, 2), w -> (w + 1) * 3, HIDDEN);
        not("22: nobody", NOBODY, x -> x.charge(0, 0), HIDDEN);
        Scene closed = but(WIDE, x -> x.close(1));
        answers("22: as it came", closed, x -> x.charge(1, 0), 2);
        answers("22: YEAR 1", closed, x -> x.charge(1, 1), 5);
    }

    private void commission() {
        int[] years = {0, 1, 8, 9};
        int[] want = {202, 400, 800, 1612};
        told("23: YEAR", WIDE, 0, 9, y -> x -> x.commission(1, y), y -> at(y, years, want),
                HIDDEN);
        told("23: WARD", WIDE, 0, 3, w -> x -> x.commission(w, 1), w -> (w + 1) * 200,
                HIDDEN);
        not("23: nobody", NOBODY, x -> x.commission(0, 0), HIDDEN);
        Scene closed = but(WIDE, x -> x.close(1));
        answers("23: as it came", closed, x -> x.commission(1, 0), 202);
        answers("23: YEAR 1", closed, x -> x.commission(1, 1), 400);
    }

    private void allowance() {
        int[] years = {0, 1, 8, 9};
        int[] want = {5, 6, 7, 8};
        told("24: YEAR", WIDE, 0, 9, y -> x -> x.allowance(1, 0, y), y -> at(y, years, want),
                HIDDEN);
        told("24: WARD", WIDE, 0, 3, w -> x -> x.allowance(w, 0, 1),
                w -> w == 1 ? 6 : w == 3 ? 9 : 0, HIDDEN);
        told("24: kind", WIDE, 0, 1, k -> x -> x.allowance(1, k, 9), k -> k == 0 ? 8 : 11,
                HIDDEN);
        not("24: nobody", NOBODY, x -> x.allowance(0, 0, 0), HIDDEN);
    }

    // ---- 25, 26

    private void entry() {
        told("25: ENTRY", FORTY, 0, 39, n -> x -> entry(x, n, 2),
                n -> n == 0 ? 7 : n == 1 ? 8 : 8 + n, THROWN);
        int[][] want = {{0, 0, 7, 500, 3, NONE}, {2, 0, 8, 50, NONE, NONE},
            {3, 0, 9, 20, NONE, NONE}, {1, 0, 11, 1, 2, 1}};
        for (int n = 0; n < want.length; n++) {
            int number = n;
            told("25: what of " + n, FORTY, 0, 5, w -> x -> entry(x, number, w),
                    w -> want[number][w], THROWN);
            for (int w = 0; w < 6; w++) {
                int what = w;
                answers("25: entry(" + n + ", " + w + ")", FORTY,
                        x -> entry(x, number, what), want[n][w]);
            }
        }
        not("25: none yet", BARE, x -> entry(x, 0, 0), THROWN);
        not("25: nobody", NOBODY, x -> entry(x, 0, 0), THROWN);
        not("25: neither", FORTY, x -> entry(x, 40, 6), THROWN);
        Scene one = but(BARE, x -> x.receive(0, 0, 99999, 0));
        told("25: the only one", one, 0, 0, n -> x -> entry(x, n, 3), n -> 99999,
                THROWN);
        not("25: it is UNDONE", but(one, x -> x.undo()), x -> entry(x, 0, 0), THROWN);
        answers("25: VOUCHER none", but(BARE, x -> x.pay(0, 0, 5, 3, 0)),
                x -> entry(x, 0, 5), 0);
        answers("25: source 0", one, x -> entry(x, 0, 4), 0);
    }

    private void payment() {
        told("26: PAYMENT", FORTY, 3, 39, n -> x -> x.payment(n, 0), n -> n - 2, NONE);
        int[] want = {1, 0, 1, 1, 0};
        told("26: what", FORTY, 0, 4, w -> x -> x.payment(3, w), w -> want[w], NONE);
        answers("26: what 2", FORTY, x -> x.payment(3, 2), 1);
        paymentIs("GOOD", x -> x.pay(0, 5, 9, 2, 40), 9, 0, 1, 1, 0);
        paymentIs("not BACKED", x -> x.pay(0, 5, 9, 2, 0), 0, 9, 0, 0, 0);
        paymentIs("GOOD, nothing ALLOWED", x -> x.pay(0, 5, 9, 1, 40), 0, 9, 1, 1, 0);
        paymentIs("GOOD, partly ALLOWED", x -> x.order(0, 1, 0, 359, 4)
                + x.pay(0, 5, 9, 1, 40), 4, 5, 1, 1, 0);
        paymentIs("RATIFIED", x -> x.ratify(x.pay(0, 5, 9, 1, 0)), 9, 0, 0, 1, 1);
        paymentIs("GOOD, RATIFIED", x -> x.ratify(x.pay(0, 5, 9, 1, 40)), 9, 0, 1, 1, 1);
        for (int what = -1; what < 6; what++) {
            int w = what;
            not("26: ahead of the first", FORTY, x -> x.payment(-1, w), NONE);
            not("26: behind the last", FORTY, x -> x.payment(40, w), NONE);
            not("26: a RECEIPT", FORTY, x -> x.payment(0, w), NONE);
            not("26: LAID OUT", FORTY, x -> x.payment(1, w), NONE);
            not("26: CALLED IN", FORTY, x -> x.payment(2, w), NONE);
            not("26: nobody", NOBODY, x -> x.payment(0, w), NONE);
        }
        not("26: it is UNDONE", but(FORTY, x -> x.undo()), x -> x.payment(39, 0), NONE);
    }

    private void paymentIs(String name, Call call, int... want) {
        for (int what = 0; what < 5; what++) {
            int w = what;
            answers("26: " + name + ", " + w, but(BARE, call), x -> x.payment(0, w), want[w]);
        }
    }

    // ---- 27 to 29

    private void account() {
        int[] years = {0, 1, 8, 9};
        int[] ahead = {0, 2020, 6020, 14020};
        told("27: YEAR", WIDE, 0, 9, y -> x -> x.account(1, y, 0), y -> at(y, years, ahead),
                HIDDEN);
        told("27: WARD", WIDE, 0, 3, w -> x -> x.account(w, 1, 1), w -> 2000 * (w + 1),
                HIDDEN);
        int[] of = {14020, 16120, 0, 0, 0, 30, 1612, 30140 + 30 - 1612};
        told("27: what", WIDE, 0, 7, w -> x -> x.account(1, 9, w), w -> of[w], HIDDEN);
        for (int what = 0; what < 8; what++) {
            int w = what;
            answers("27: what " + w, WIDE, x -> x.account(1, 9, w), of[w]);
            not("27: nobody", NOBODY, x -> x.account(0, 0, w), HIDDEN);
            not("27: no second", BARE, x -> x.account(1, 0, w), HIDDEN);
        }
        answers("27: LAID OUT less CALLED IN", WIDE, x -> x.account(3, 9, 4), 28);
        yearsOfAccounts();
        aheadOfAYear();
    }

    /** What lies on the first and the last DAY of a YEAR is its own. */
    private void yearsOfAccounts() {
        for (int day : new int[] {359, 360, 719, 720}) {
            Scene on = but(BARE, x -> x.receive(0, 0, 5000, 0), x -> x.receive(0, day, 70, 0),
                    x -> x.pay(0, day, 30, 2, 1), x -> x.pay(0, day, 20, 2, 0),
                    x -> x.layOut(0, day, 9), x -> x.callIn(0, day, 4));
            int its = day == 360 || day == 719 ? 1 : 0;
            int[] want = {70 * its, 30 * its, 20 * its, 5 * its};
            for (int what = 1; what <= 4; what++) {
                int w = what;
                answers("27: account(0, 1, " + w + ") with DAY " + day, on,
                        x -> x.account(0, 1, w), want[w - 1]);
            }
            answers("27: ahead of YEAR 1", on, x -> x.account(0, 1, 0),
                    day < 360 ? 5035 : 5000);
            answers("27: at its end", on, x -> x.account(0, 1, 7), day < 720 ? 5035 : 5000);
        }
    }

    /** "what the YEAR ahead brought, if that is CLOSED (0 for YEAR 0)" */
    private void aheadOfAYear() {
        Scene open = but(under("small 0;grace 0;floor 0;rate 100;fee 50"),
                x -> x.receive(0, 0, 1000, 0));
        answers("27: YEAR 0", open, x -> x.account(0, 0, 0), 0);
        answers("27: YEAR 1", open, x -> x.account(0, 1, 0), 1000);
        answers("27: what it would bring", open, x -> x.account(0, 0, 7), 1050);
        Scene one = but(open, x -> x.close(0));
        answers("27: YEAR 0 still", one, x -> x.account(0, 0, 0), 0);
        answers("27: YEAR 1 with it", one, x -> x.account(0, 1, 0), 1050);
        answers("27: YEAR 2", one, x -> x.account(0, 2, 0), 1050);
        answers("27: YEAR 1 would bring", one, x -> x.account(0, 1, 7), 1155);
        answers("27: YEAR 0 brought", one, x -> x.account(0, 0, 7), 1050);
        Scene undone = but(one, x -> x.undo());
        answers("27: YEAR 0 isn't CLOSED any more", undone, x -> x.account(0, 1, 0), 1000);
        answers("27: YEAR 0 isn't CLOSED any more", undone, x -> x.account(0, 1, 7), 1100);
    }

    private void month() {
        int[] months = {0, 1, 118, 119};
        int[] want = {2020, 0, 0, 120};
        told("28: MONTH", WIDE, 0, 119, m -> x -> x.month(1, m, 0), m -> at(m, months, want),
                HIDDEN);
        told("28: WARD", WIDE, 0, 3, w -> x -> x.month(w, 12, 0), w -> 2000 * (w + 1),
                HIDDEN);
        int[] of = {2020, 0, 2000, 2020};
        told("28: what", WIDE, 0, 3, w -> x -> x.month(1, 0, w), w -> of[w], HIDDEN);
        not("28: nobody", NOBODY, x -> x.month(0, 0, 0), HIDDEN);
        for (int day : new int[] {29, 30, 59, 60}) {
            boolean its = day == 30 || day == 59;
            Scene on = but(BARE, x -> x.receive(0, 0, 500, 0), x -> x.receive(0, day, 70, 0));
            answers("28: RECEIPT on DAY " + day, on, x -> x.month(0, 1, 0), its ? 70 : 0);
            answers("28: least", on, x -> x.month(0, 1, 2), day <= 30 ? 570 : 500);
            answers("28: greatest", on, x -> x.month(0, 1, 3), day == 60 ? 500 : 570);
            Scene off = but(BARE, x -> x.receive(0, 0, 500, 0), x -> x.pay(0, day, 70, 2, 1));
            answers("28: PAYMENT on DAY " + day, off, x -> x.month(0, 1, 1), its ? 70 : 0);
            answers("28: least", off, x -> x.month(0, 1, 2), day == 60 ? 500 : 430);
            answers("28: greatest", off, x -> x.month(0, 1, 3), day <= 30 ? 430 : 500);
        }
        Scene closed = but(under("small 0;grace 0;floor 0;rate 100;fee 0"),
                x -> x.receive(0, 0, 500, 0), x -> x.close(0));
        answers("28: the last MONTH of a CLOSED YEAR", closed, x -> x.month(0, 11, 3), 500);
        answers("28: the first behind it", closed, x -> x.month(0, 12, 2), 550);
    }

    private void extreme() {
        int[] years = {0, 1, 8, 9};
        int[] want = {1, 360, 2880, 3599};
        told("29: YEAR", WIDE, 0, 9, y -> x -> x.extreme(1, y, 0), y -> at(y, years, want),
                HIDDEN);
        told("29: WARD", WIDE, 0, 3, w -> x -> x.extreme(w, 9, 0), w -> 3599, HIDDEN);
        int[] of = {1, 0, 0, 360};
        told("29: what", WIDE, 0, 3, w -> x -> x.extreme(1, 0, w), w -> of[w], HIDDEN);
        not("29: nobody", NOBODY, x -> x.extreme(0, 0, 0), HIDDEN);
        extremeIs("nothing", BARE, 360, 360, 0, 0);
        extremeIs("one less", but(BARE, x -> x.pay(0, 719, 1, 2, 1)), 360, 719, 1, 0);
        extremeIs("one more", but(BARE, x -> x.receive(0, 719, 1, 0)), 719, 360, 0, 1);
        extremeIs("the next YEAR", but(BARE, x -> x.receive(0, 720, 1, 0)), 360, 360, 0, 0);
        extremeIs("the YEAR ahead", but(BARE, x -> x.receive(0, 359, 1, 0)), 360, 360, 0, 360);
        extremeIs("to 0 is not below", but(BARE, x -> x.receive(0, 370, 5, 0),
                x -> x.pay(0, 380, 5, 2, 1)), 370, 360, 0, 10);
        extremeIs("of several the first", but(BARE, x -> x.receive(0, 370, 5, 0),
                x -> x.pay(0, 380, 7, 2, 1), x -> x.receive(0, 390, 7, 0),
                x -> x.pay(0, 400, 7, 2, 2)), 370, 380, 330, 20);
        extremeIs("floor", but(under("grace 0;floor 5"), x -> x.receive(0, 370, 5, 0),
                x -> x.receive(0, 380, 1, 0), x -> x.pay(0, 381, 1, 2, 1)), 380, 360, 0, 1);
        extremeIs("grace", but(under("grace 2;floor 0"), x -> x.receive(0, 370, 5, 0),
                x -> x.pay(0, 373, 5, 2, 1)), 370, 360, 0, 1);
    }

    private void extremeIs(String name, Scene scene, int... want) {
        for (int what = 0; what < 4; what++) {
            int w = what;
            answers("29: " + name + ", " + w, scene, x -> x.extreme(0, 1, w), want[w]);
        }
    }

    // ---- 30, 31

    private void meanIs(int years, int want, Call... calls) {
        Scene scene = but(but(BARE, calls), x -> {
            for (int i = 0; i < years; i++) {
                x.close(0);
            }
            return 0;
        });
        not("30: MEAN of " + years, scene, x -> x.mean(0), want);
    }

    private void mean() {
        meanIs(0, HIDDEN, x -> x.receive(0, 0, 5, 0));
        meanIs(1, 0);
        meanIs(1, 5, x -> x.receive(0, 359, 5, 0));
        meanIs(1, 0, x -> x.receive(0, 360, 5, 0));
        meanIs(2, 2, x -> x.receive(0, 360, 5, 0));
        meanIs(2, -2, x -> x.pay(0, 719, 5, 2, 1));
        meanIs(2, 0, x -> x.pay(0, 0, 1, 2, 1));
        meanIs(2, 0, x -> x.receive(0, 0, 1, 0));
        meanIs(2, 1, x -> x.receive(0, 0, 2, 0));
        meanIs(2, -1, x -> x.pay(0, 0, 2, 2, 1));
        meanIs(2, -1, x -> x.pay(0, 0, 3, 2, 1));
        meanIs(1, -1, x -> x.pay(0, 359, 1, 2, 1));
        meanIs(1, 0, x -> x.pay(0, 360, 1, 2, 1));
        meanIs(1, 0, x -> x.pay(0, 359, 1, 2, 0));
        meanIs(10, 9, x -> x.receive(0, 3599, 99, 0));
        meanIs(10, -9, x -> x.pay(0, 3599, 99, 2, 1));
        meanIs(9, 0, x -> x.receive(0, 3240, 99, 0));
        told("30: WARD", but(WIDE, x -> x.close(0), x -> x.close(1), x -> x.close(2),
                x -> x.close(3)), 0, 3, w -> x -> x.mean(w), w -> 1010 * (w + 1), HIDDEN);
        not("30: nobody", NOBODY, x -> x.mean(0), HIDDEN);
        not("30: UNDONE", but(BARE, x -> x.close(0), x -> x.undo()), x -> x.mean(0), HIDDEN);
    }

    private void lasts() {
        Scene ten = but(BARE, x -> x.pay(0, 0, 10, 2, 1), x -> x.receive(0, 400, 10, 0),
                x -> x.close(0));
        lastsIs(ten, 9, 0);
        lastsIs(ten, 10, 1);
        lastsIs(ten, 11, 1);
        lastsIs(ten, 19, 1);
        lastsIs(ten, 20, 2);
        lastsIs(ten, 989, 98);
        lastsIs(ten, 990, 99);
        lastsIs(ten, 999, 99);
        lastsIs(ten, 1000, 100);
        lastsIs(ten, 1010, 100);
        lastsIs(ten, 99999, 100);
        answers("31: nothing left", ten, x -> x.lasts(0, 400), 0);
        not("31: below 0", ten, x -> x.lasts(0, 399), NONE);
        answers("31: one above 0", but(ten, x -> x.receive(0, 500, 1, 0)),
                x -> x.lasts(0, 500), 0);
        not("31: one below 0", but(ten, x -> x.pay(0, 500, 1, 2, 2)), x -> x.lasts(0, 500),
                NONE);
        answers("31: OUT counts", but(ten, x -> x.receive(0, 500, 70, 0),
                x -> x.layOut(0, 500, 70)), x -> x.lasts(0, 500), 7);
        meanIsNotBelow();
        int[] days = {0, 1, 3598, 3599};
        int[] want = {NONE, NONE, 0, 5};
        told("31: DAY", but(ten, x -> x.receive(0, 3599, 50, 0)), 0, 3599,
                d -> x -> x.lasts(0, d), d -> at(d, days, want), HIDDEN);
        told("31: WARD", but(WIDE, x -> x.close(0), x -> x.close(1), x -> x.close(2),
                x -> x.close(3)), 0, 3, w -> x -> x.lasts(w, 5), w -> 100, HIDDEN);
        not("31: MEAN isn't told", BARE, x -> x.lasts(0, 0), HIDDEN);
        not("31: nor below 0", but(BARE, x -> x.pay(0, 0, 10, 2, 1)), x -> x.lasts(0, 0),
                HIDDEN);
        not("31: nobody", NOBODY, x -> x.lasts(0, 0), HIDDEN);
    }

    private void lastsIs(Scene scene, int left, int want) {
        answers("31: " + left + " left", but(scene, x -> x.receive(0, 500, left, 0)),
                x -> x.lasts(0, 500), want);
    }

    /** A MEAN of 0 or more never uses it up: 100, but below 0 NONE. */
    private void meanIsNotBelow() {
        Scene nought = but(BARE, x -> x.close(0), x -> x.pay(0, 500, 5, 2, 1));
        answers("31: MEAN 0", nought, x -> x.lasts(0, 499), 100);
        not("31: MEAN 0, below 0", nought, x -> x.lasts(0, 500), NONE);
        Scene above = but(BARE, x -> x.receive(0, 359, 5, 0), x -> x.close(0),
                x -> x.pay(0, 500, 6, 2, 1));
        answers("31: MEAN 5", above, x -> x.lasts(0, 499), 100);
        answers("31: MEAN 5, nothing yet", above, x -> x.lasts(0, 0), 100);
        not("31: MEAN 5, below 0", above, x -> x.lasts(0, 500), NONE);
        Scene one = but(BARE, x -> x.pay(0, 0, 1, 2, 1), x -> x.receive(0, 360, 100, 0),
                x -> x.close(0));
        answers("31: MEAN -1, 99 left", one, x -> x.lasts(0, 360), 99);
        answers("31: MEAN -1, 100 left", but(one, x -> x.receive(0, 360, 1, 0)),
                x -> x.lasts(0, 360), 100);
    }
}
