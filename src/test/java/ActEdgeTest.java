/** The edges of promises 7 to 18: the ACTS, why they are refused, and what stays then. */
public final class ActEdgeTest extends Edges {
    private static final Scene TWO = ActEdgeTest::two;
    /** YEARS 0 and 1 of WARD 0 are CLOSED, none of WARD 1. */
    private static final Scene CLOSED = ActEdgeTest::closed;
    private static final Scene ALL_CLOSED = () -> closedOf(10);
    private static final Scene SETTLED = ActEdgeTest::settled;
    private static final Scene FULL_ENTRIES = () -> withEntries(40);
    private static final Scene FULL_ORDERS = () -> withOrders(12);
    private static final Scene FULL_CHANGES = () -> withChanges(6);

    public static void main(String[] args) {
        ActEdgeTest test = new ActEdgeTest();
        test.guardian();
        test.bond();
        test.ward();
        test.change();
        test.receive();
        test.pay();
        test.layOut();
        test.callIn();
        test.order();
        test.ratify();
        test.close();
        test.settle();
        test.checks.end("ActEdgeTest");
    }

    // ---- what is told

    /** GUARDIANS 0 (BOND 0) and 1 (BOND 500); WARDS 0 (of 0) and 1 (of 1), each with 1000. */
    private static GuardRolls two() {
        GuardRolls x = Checks.under("age 18;small 0;grace 0;floor 0;rate 0;fee 0;cover 1");
        x.guardian(0);
        x.guardian(500);
        x.ward(0, 0);
        x.ward(-9000, 1);
        x.receive(0, 0, 1000, 0);
        x.receive(1, 0, 1000, 1);
        x.image();
        x.pay(0, 359, 10, 2, 7);
        x.pay(0, 720, 20, 2, 0);
        x.pay(1, 500, 30, 3, 7);
        return x;
    }

    private static GuardRolls closed() {
        return closedOf(2);
    }

    private static GuardRolls closedOf(int years) {
        GuardRolls x = two();
        for (int i = 0; i < years; i++) {
            x.close(0);
        }
        return x;
    }

    /** WARD 1 is SETTLED. */
    private static GuardRolls settled() {
        GuardRolls x = two();
        x.close(1);
        x.settle(1);
        return x;
    }

    private static GuardRolls withEntries(int many) {
        GuardRolls x = two();
        while (x.count(4) < many) {
            x.receive(x.count(4) % 2, 800, 5, 2);
        }
        return x;
    }

    private static GuardRolls withOrders(int many) {
        GuardRolls x = two();
        for (int i = 0; i < many; i++) {
            x.order(i % 2, 0, 0, 3599, 10);
        }
        return x;
    }

    private static GuardRolls withChanges(int many) {
        GuardRolls x = two();
        for (int i = 0; i < many; i++) {
            x.change(0, 1000, 1 - i % 2);
        }
        return x;
    }

    // ---- 7

    private void guardian() {
        bounds("7: BOND", NOBODY, 0, 999999, b -> x -> x.guardian(b), b -> 0, BOUNDS);
        bounds("7: BOND", TWO, 0, 999999, b -> x -> x.guardian(b), b -> 2, BOUNDS);
        for (int b : new int[] {0, 1, 999998, 999999}) {
            answers("7: it is his", but(NOBODY, x -> x.guardian(b)), x -> x.bond(0, 77), b);
        }
        Scene three = but(TWO, x -> x.guardian(9));
        refused("7: a fourth", three, x -> x.guardian(0), FULL);
        refused("7: a fourth", three, x -> x.guardian(999999), FULL);
        refused("7: 1 ahead of 4", three, x -> x.guardian(-1), BOUNDS);
        refused("7: 1 ahead of 4", three, x -> x.guardian(1000000), BOUNDS);
        answers("7: room again", but(three, x -> x.undo()), x -> x.guardian(8), 2);
        refused("7: no more room", but(three, x -> x.undo(), x -> x.guardian(8)),
                x -> x.guardian(8), FULL);
    }

    // ---- 8

    private void bond() {
        bounds("8: BOND", TWO, 0, 999999, b -> x -> x.bond(1, b), b -> 500, BOUNDS);
        answers("8: one less", TWO, x -> x.bond(1, 499), 500);
        refused("8: it is so", TWO, x -> x.bond(1, 500), CANNOT);
        answers("8: one more", TWO, x -> x.bond(1, 501), 500);
        refused("8: it is so at 0", TWO, x -> x.bond(0, 0), CANNOT);
        answers("8: 1 for 0", TWO, x -> x.bond(0, 1), 0);
        Scene most = but(TWO, x -> x.bond(0, 999999));
        refused("8: it is so at 999999", most, x -> x.bond(0, 999999), CANNOT);
        answers("8: 0 for 999999", most, x -> x.bond(0, 0), 999999);
        bounds("8: GUARDIAN", TWO, 0, 1, g -> x -> x.bond(g, 77), g -> 500 * g, UNKNOWN);
        Scene three = but(TWO, x -> x.guardian(9));
        bounds("8: of three", three, 0, 2, g -> x -> x.bond(g, 1),
                g -> g == 2 ? 9 : 500 * g, UNKNOWN);
        refused("8: nobody", NOBODY, x -> x.bond(0, 5), UNKNOWN);
        refused("8: 0 ahead of 1", TWO, x -> x.bond(2, -1), UNKNOWN);
        refused("8: 0 ahead of 1", TWO, x -> x.bond(-1, 1000000), UNKNOWN);
        answers("8: what was UNDONE", but(most, x -> x.undo()), x -> x.bond(0, 5), 0);
    }

    // ---- 9

    private void ward() {
        bounds("9: BORN", TWO, -9000, 3599, b -> x -> x.ward(b, 0), b -> 2, BOUNDS);
        bounds("9: GUARDIAN", TWO, 0, 1, g -> x -> x.ward(0, g), g -> 2, UNKNOWN);
        for (int born : new int[] {-9000, -8999, -1, 0, 1, 3598, 3599}) {
            answers("9: BORN", but(TWO, x -> x.ward(born, 0)), x -> x.wardOf(2, 0), born);
        }
        answers("9: his GUARDIAN", but(TWO, x -> x.ward(3599, 1)), x -> x.whose(2, 0), 1);
        refused("9: nobody", NOBODY, x -> x.ward(0, 0), UNKNOWN);
        refused("9: 0 ahead of 1", TWO, x -> x.ward(-9001, 2), UNKNOWN);
        refused("9: 0 ahead of 1", TWO, x -> x.ward(3600, -1), UNKNOWN);
        Scene three = but(TWO, x -> x.ward(0, 0));
        Scene four = but(three, x -> x.ward(0, 0));
        answers("9: a fourth", three, x -> x.ward(0, 0), 3);
        refused("9: a fifth", four, x -> x.ward(0, 0), FULL);
        refused("9: 0 ahead of 4", four, x -> x.ward(0, 2), UNKNOWN);
        refused("9: 1 ahead of 4", four, x -> x.ward(3600, 1), BOUNDS);
        refused("9: 1 ahead of 4", four, x -> x.ward(-9001, 1), BOUNDS);
        answers("9: room again", but(four, x -> x.undo()), x -> x.ward(0, 1), 3);
    }

    // ---- 10

    private void change() {
        bounds("10: DAY", TWO, 0, 3599, d -> x -> x.change(0, d, 1), d -> 1, BOUNDS);
        bounds("10: WARD", TWO, 0, 1, w -> x -> x.change(w, 5, 1 - w), w -> 1, UNKNOWN);
        Scene third = but(TWO, x -> x.guardian(9), x -> x.ward(0, 2));
        answers("10: the first GUARDIAN", third, x -> x.change(2, 5, 0), 1);
        answers("10: the second", third, x -> x.change(2, 5, 1), 1);
        answers("10: the last", third, x -> x.change(0, 5, 2), 1);
        for (int g : new int[] {Integer.MIN_VALUE, -1, 3, Integer.MAX_VALUE}) {
            refused("10: no GUARDIAN " + g, third, x -> x.change(2, 5, g), UNKNOWN);
        }
        refused("10: nobody", NOBODY, x -> x.change(0, 0, 0), UNKNOWN);
        hisAlready();
        laterChanges();
        sixChanges();
        refused("10: the last CLOSED DAY", CLOSED, x -> x.change(0, 719, 1), SHUT);
        refused("10: the first CLOSED DAY", CLOSED, x -> x.change(0, 0, 1), SHUT);
        answers("10: the next DAY", CLOSED, x -> x.change(0, 720, 1), 1);
        answers("10: of another WARD", CLOSED, x -> x.change(1, 719, 0), 1);
        refused("10: all CLOSED", ALL_CLOSED, x -> x.change(0, 3599, 1), SHUT);
        refused("10: SETTLED", SETTLED, x -> x.change(1, 3599, 0), SHUT);
        answers("10: another is SETTLED", SETTLED, x -> x.change(0, 0, 1), 1);
        changeReasons();
    }

    /** "the GUARDIAN is his on that DAY already" */
    private void hisAlready() {
        refused("10: his from the first", TWO, x -> x.change(0, 0, 0), CANNOT);
        refused("10: his to the last", TWO, x -> x.change(0, 3599, 0), CANNOT);
        Scene on = but(TWO, x -> x.change(0, 100, 1));
        refused("10: his on that DAY", on, x -> x.change(0, 100, 1), CANNOT);
        refused("10: his on the next", on, x -> x.change(0, 101, 1), CANNOT);
        answers("10: another's on that DAY", on, x -> x.change(0, 100, 0), 2);
        answers("10: another's on the next", on, x -> x.change(0, 101, 0), 2);
        Scene same = but(on, x -> x.change(0, 100, 0));
        answers("10: last on that DAY", same, x -> x.whose(0, 100), 0);
        answers("10: the DAY ahead", same, x -> x.whose(0, 99), 0);
        refused("10: his again", same, x -> x.change(0, 100, 0), CANNOT);
        answers("10: the other one again", same, x -> x.change(0, 100, 1), 3);
        answers("10: it is UNDONE", but(on, x -> x.undo()), x -> x.change(0, 50, 1), 1);
    }

    /** "a CHANGE of his is on a later DAY" */
    private void laterChanges() {
        Scene on = but(TWO, x -> x.change(0, 100, 1));
        refused("10: the DAY ahead", on, x -> x.change(0, 99, 1), CANNOT);
        refused("10: DAY 0", on, x -> x.change(0, 0, 1), CANNOT);
        Scene third = but(on, x -> x.guardian(3));
        refused("10: the DAY ahead", third, x -> x.change(0, 99, 2), CANNOT);
        answers("10: that DAY", third, x -> x.change(0, 100, 2), 2);
        answers("10: the next DAY", third, x -> x.change(0, 101, 2), 2);
        answers("10: of another WARD", on, x -> x.change(1, 99, 0), 1);
        Scene last = but(TWO, x -> x.change(0, 3599, 1));
        refused("10: behind them all is one", last, x -> x.change(0, 3598, 1), CANNOT);
        answers("10: on the last DAY", last, x -> x.change(0, 3599, 0), 2);
    }

    /** "6 CHANGES at most" */
    private void sixChanges() {
        for (int many = 0; many < 6; many++) {
            int told = many;
            answers("10: CHANGE " + many, () -> withChanges(told),
                    x -> x.change(0, 1000, 1 - told % 2), told + 1);
        }
        refused("10: a seventh", FULL_CHANGES, x -> x.change(0, 1000, 1), FULL);
        refused("10: a seventh", FULL_CHANGES, x -> x.change(0, 3599, 1), FULL);
        answers("10: of another WARD", FULL_CHANGES, x -> x.change(1, 0, 0), 1);
        answers("10: room again", but(FULL_CHANGES, x -> x.undo()),
                x -> x.change(0, 1000, 0), 6);
    }

    private void changeReasons() {
        refused("10: 0 ahead of 1", TWO, x -> x.change(2, -1, 0), UNKNOWN);
        refused("10: 0 ahead of 1", TWO, x -> x.change(0, 3600, 2), UNKNOWN);
        refused("10: 0 ahead of 2", CLOSED, x -> x.change(0, 0, 2), UNKNOWN);
        refused("10: 0 ahead of 2", SETTLED, x -> x.change(1, 0, -1), UNKNOWN);
        refused("10: 0 ahead of 3", FULL_CHANGES, x -> x.change(0, 999, 2), UNKNOWN);
        refused("10: 0 ahead of 4", FULL_CHANGES, x -> x.change(0, 1000, 2), UNKNOWN);
        refused("10: 1 ahead of 2", SETTLED, x -> x.change(1, 3600, 0), BOUNDS);
        refused("10: 1 ahead of 2", CLOSED, x -> x.change(0, -1, 1), BOUNDS);
        refused("10: 1 ahead of 3", TWO, x -> x.change(0, -1, 0), BOUNDS);
        refused("10: 1 ahead of 4", FULL_CHANGES, x -> x.change(0, 3600, 1), BOUNDS);
        refused("10: 2 ahead of 3", CLOSED, x -> x.change(0, 719, 0), SHUT);
        refused("10: 2 ahead of 3", SETTLED, x -> x.change(1, 719, 1), SHUT);
        refused("10: 2 ahead of 4", but(FULL_CHANGES, x -> x.close(0), x -> x.close(0),
                x -> x.close(0)), x -> x.change(0, 1000, 1), SHUT);
        refused("10: 3 ahead of 4", FULL_CHANGES, x -> x.change(0, 1000, 0), CANNOT);
        refused("10: 3 ahead of 4", FULL_CHANGES, x -> x.change(0, 999, 1), CANNOT);
    }

    // ---- 11

    private void receive() {
        bounds("11: WARD", TWO, 0, 1, w -> x -> x.receive(w, 5, 6, 0), w -> 5, UNKNOWN);
        bounds("11: DAY", TWO, 0, 3599, d -> x -> x.receive(0, d, 6, 0), d -> 5, BOUNDS);
        bounds("11: amount", TWO, 1, 99999, a -> x -> x.receive(0, 5, a, 0), a -> 5, BOUNDS);
        bounds("11: source", TWO, 0, 3, s -> x -> x.receive(0, 5, 6, s), s -> 5, BOUNDS);
        for (int a : new int[] {1, 2, 99998, 99999}) {
            answers("11: amount", but(TWO, x -> x.receive(0, 5, a, 0)), x -> x.entry(5, 3), a);
        }
        shutDays("11: ", x -> x.receive(0, 719, 6, 0), x -> x.receive(0, 720, 6, 0),
                x -> x.receive(0, 3599, 6, 0), x -> x.receive(1, 3599, 6, 0));
        fullEntries("11: ", x -> x.receive(0, 0, 6, 0));
        refused("11: 0 ahead of 1", TWO, x -> x.receive(2, -1, 0, 4), UNKNOWN);
        refused("11: 0 ahead of 4", FULL_ENTRIES, x -> x.receive(2, 0, 6, 0), UNKNOWN);
        refused("11: 1 ahead of 2", CLOSED, x -> x.receive(0, 719, 0, 0), BOUNDS);
        refused("11: 1 ahead of 2", SETTLED, x -> x.receive(1, 3600, 6, 0), BOUNDS);
        refused("11: 1 ahead of 2", SETTLED, x -> x.receive(1, 0, 6, 4), BOUNDS);
        refused("11: 1 ahead of 4", FULL_ENTRIES, x -> x.receive(0, 0, 6, -1), BOUNDS);
        refused("11: 2 ahead of 4", but(FULL_ENTRIES, x -> x.close(0)),
                x -> x.receive(0, 359, 6, 0), SHUT);
        refused("11: nobody", NOBODY, x -> x.receive(0, 0, 6, 0), UNKNOWN);
    }

    /**
     * "No ENTRY .. of that WARD on a DAY of CLOSED YEARS comes then": of WARD 0 on the last CLOSED
     * DAY, on the next, on the last one of all; of WARD 1 at last, where he is SETTLED.
     */
    private void shutDays(String name, Call on, Call next, Call last,
            Call ofOther) {
        refused(name + "the last CLOSED DAY", CLOSED, on, SHUT);
        answers(name + "the next DAY", CLOSED, next, 5);
        refused(name + "one more YEAR CLOSED", but(CLOSED, x -> x.close(0)), next, SHUT);
        answers(name + "one YEAR less CLOSED", but(CLOSED, x -> x.undo()), on, 5);
        answers(name + "YEAR 9 is open", () -> closedOf(9), last, 5);
        refused(name + "all ten CLOSED", ALL_CLOSED, last, SHUT);
        answers(name + "of another WARD", ALL_CLOSED, ofOther, 5);
        refused(name + "SETTLED", SETTLED, ofOther, SHUT);
        answers(name + "another is SETTLED", SETTLED, on, 5);
        answers(name + "SETTLED no more", but(SETTLED, x -> x.undo()), ofOther, 5);
    }

    /** "ENTRIES (40 at most)" */
    private void fullEntries(String name, Call enter) {
        answers(name + "the 39th", () -> withEntries(38), enter, 38);
        answers(name + "the 40th", () -> withEntries(39), enter, 39);
        refused(name + "the 41st", FULL_ENTRIES, enter, FULL);
        answers(name + "room again", but(FULL_ENTRIES, x -> x.undo()), enter, 39);
        answers(name + "room again", but(FULL_ENTRIES, x -> x.back()), enter, 2);
    }

    // ---- 12

    private void pay() {
        bounds("12: WARD", TWO, 0, 1, w -> x -> x.pay(w, 5, 6, 0, 0), w -> 5, UNKNOWN);
        bounds("12: DAY", TWO, 0, 3599, d -> x -> x.pay(0, d, 6, 0, 0), d -> 5, BOUNDS);
        bounds("12: amount", TWO, 1, 99999, a -> x -> x.pay(0, 5, a, 0, 0), a -> 5, BOUNDS);
        bounds("12: kind", TWO, 0, 3, k -> x -> x.pay(0, 5, 6, k, 0), k -> 5, BOUNDS);
        bounds("12: VOUCHER", TWO, 0, 999, v -> x -> x.pay(0, 5, 6, 0, v), v -> 5, BOUNDS);
        for (int v : new int[] {0, 1, 998, 999}) {
            Scene paid = but(TWO, x -> x.pay(0, 5, 6, 2, v));
            answers("12: VOUCHER " + v, paid, x -> x.entry(5, 5), v);
            answers("12: is GOOD " + v, paid, x -> x.payment(5, 2), v == 0 ? 0 : 1);
        }
        shutDays("12: ", x -> x.pay(0, 719, 6, 0, 0), x -> x.pay(0, 720, 6, 0, 0),
                x -> x.pay(0, 3599, 6, 0, 0), x -> x.pay(1, 3599, 6, 0, 0));
        fullEntries("12: ", x -> x.pay(0, 0, 6, 0, 999));
        refused("12: 0 ahead of 1", TWO, x -> x.pay(2, -1, 0, 4, 1000), UNKNOWN);
        refused("12: 0 ahead of 4", FULL_ENTRIES, x -> x.pay(-1, 0, 6, 0, 0), UNKNOWN);
        refused("12: 1 ahead of 2", CLOSED, x -> x.pay(0, 719, 6, 0, 1000), BOUNDS);
        refused("12: 1 ahead of 2", CLOSED, x -> x.pay(0, 719, 6, 4, 0), BOUNDS);
        refused("12: 1 ahead of 2", SETTLED, x -> x.pay(1, 719, 100000, 0, 0), BOUNDS);
        refused("12: 1 ahead of 4", FULL_ENTRIES, x -> x.pay(0, 0, 6, 0, -1), BOUNDS);
        refused("12: 2 ahead of 4", but(FULL_ENTRIES, x -> x.close(0)),
                x -> x.pay(0, 359, 6, 0, 0), SHUT);
        refused("12: nobody", NOBODY, x -> x.pay(0, 0, 6, 0, 0), UNKNOWN);
    }

    // ---- 13

    private void layOut() {
        Scene rich = but(TWO, x -> x.receive(0, 0, 99999, 0), x -> x.receive(0, 0, 99999, 0));
        bounds("13: WARD", TWO, 0, 1, w -> x -> x.layOut(w, 5, 6), w -> 5, UNKNOWN);
        bounds("13: DAY", TWO, 0, 3599, d -> x -> x.layOut(0, d, 6), d -> 5, BOUNDS);
        bounds("13: amount", rich, 1, 99999, a -> x -> x.layOut(0, 5, a), a -> 7, BOUNDS);
        moneyOnThatDay();
        shutDays("13: ", x -> x.layOut(0, 719, 6), x -> x.layOut(0, 720, 6),
                x -> x.layOut(0, 3599, 6), x -> x.layOut(1, 3599, 6));
        fullEntries("13: ", x -> x.layOut(0, 0, 6));
        refused("13: 0 ahead of 1", TWO, x -> x.layOut(2, -1, 0), UNKNOWN);
        refused("13: 0 ahead of 4", FULL_ENTRIES, x -> x.layOut(-1, 0, 6), UNKNOWN);
        refused("13: 1 ahead of 2", CLOSED, x -> x.layOut(0, 719, 0), BOUNDS);
        refused("13: 1 ahead of 3", TWO, x -> x.layOut(0, 5, 100000), BOUNDS);
        refused("13: 1 ahead of 4", FULL_ENTRIES, x -> x.layOut(0, 3600, 6), BOUNDS);
        refused("13: 2 ahead of 3", CLOSED, x -> x.layOut(0, 719, 99999), SHUT);
        refused("13: 2 ahead of 3", SETTLED, x -> x.layOut(1, 719, 99999), SHUT);
        refused("13: 2 ahead of 4", but(FULL_ENTRIES, x -> x.close(0)),
                x -> x.layOut(0, 359, 6), SHUT);
        refused("13: 3 ahead of 4", FULL_ENTRIES, x -> x.layOut(0, 0, 1001), CANNOT);
        refused("13: nobody", NOBODY, x -> x.layOut(0, 0, 6), UNKNOWN);
    }

    /** "MONEY on that DAY is less" */
    private void moneyOnThatDay() {
        answers("13: one less", TWO, x -> x.layOut(0, 358, 999), 5);
        answers("13: all of it", TWO, x -> x.layOut(0, 358, 1000), 5);
        refused("13: one more", TWO, x -> x.layOut(0, 358, 1001), CANNOT);
        answers("13: at the DAY's end", TWO, x -> x.layOut(0, 359, 990), 5);
        refused("13: at the DAY's end", TWO, x -> x.layOut(0, 359, 991), CANNOT);
        Scene later = but(TWO, x -> x.receive(0, 100, 50, 0));
        refused("13: it comes on the next", later, x -> x.layOut(0, 99, 1001), CANNOT);
        answers("13: it comes on that DAY", later, x -> x.layOut(0, 100, 1050), 6);
        Scene none = but(TWO, x -> x.layOut(0, 0, 1000));
        refused("13: none is left", none, x -> x.layOut(0, 0, 1), CANNOT);
        refused("13: below 0", none, x -> x.layOut(0, 359, 1), CANNOT);
        answers("13: of another WARD", none, x -> x.layOut(1, 0, 1000), 6);
    }

    // ---- 14

    private void callIn() {
        Scene rich = but(TWO, x -> x.receive(0, 0, 99999, 0), x -> x.layOut(0, 0, 99999),
                x -> x.layOut(0, 0, 500), x -> x.layOut(1, 0, 500));
        bounds("14: WARD", rich, 0, 1, w -> x -> x.callIn(w, 5, 6), w -> 9, UNKNOWN);
        bounds("14: DAY", rich, 0, 3599, d -> x -> x.callIn(0, d, 6), d -> 9, BOUNDS);
        bounds("14: amount", rich, 1, 99999, a -> x -> x.callIn(0, 5, a), a -> 9, BOUNDS);
        outOnThatDay();
        callInWhenShut();
        Scene full = but(() -> withEntries(39), x -> x.layOut(0, 0, 500));
        answers("14: the 40th", but(() -> withEntries(38), x -> x.layOut(0, 0, 500)),
                x -> x.callIn(0, 0, 6), 39);
        refused("14: the 41st", full, x -> x.callIn(0, 0, 6), FULL);
        refused("14: 0 ahead of 1", TWO, x -> x.callIn(2, -1, 0), UNKNOWN);
        refused("14: 0 ahead of 4", full, x -> x.callIn(-1, 0, 6), UNKNOWN);
        refused("14: 1 ahead of 2", CLOSED, x -> x.callIn(0, 719, 0), BOUNDS);
        refused("14: 1 ahead of 3", TWO, x -> x.callIn(0, 5, 100000), BOUNDS);
        refused("14: 1 ahead of 4", full, x -> x.callIn(0, 3600, 6), BOUNDS);
        refused("14: 2 ahead of 3", CLOSED, x -> x.callIn(0, 719, 6), SHUT);
        refused("14: 2 ahead of 3", SETTLED, x -> x.callIn(1, 719, 6), SHUT);
        refused("14: 2 ahead of 4", but(full, x -> x.close(0)), x -> x.callIn(0, 359, 6),
                SHUT);
        refused("14: 3 ahead of 4", full, x -> x.callIn(0, 0, 501), CANNOT);
        refused("14: nobody", NOBODY, x -> x.callIn(0, 0, 6), UNKNOWN);
    }

    private void callInWhenShut() {
        Scene out = but(TWO, x -> x.layOut(0, 0, 500), x -> x.layOut(1, 0, 500));
        Scene two = but(out, x -> x.close(0), x -> x.close(0));
        refused("14: the last CLOSED DAY", two, x -> x.callIn(0, 719, 6), SHUT);
        answers("14: the next DAY", two, x -> x.callIn(0, 720, 6), 7);
        answers("14: of another WARD", two, x -> x.callIn(1, 719, 6), 7);
        Scene settled = but(out, x -> x.close(1), x -> x.settle(1));
        refused("14: SETTLED", settled, x -> x.callIn(1, 3599, 6), SHUT);
        answers("14: another is SETTLED", settled, x -> x.callIn(0, 0, 6), 7);
    }

    /** "3: OUT on that DAY is less" */
    private void outOnThatDay() {
        Scene out = but(TWO, x -> x.layOut(0, 100, 500), x -> x.layOut(0, 200, 50));
        refused("14: the DAY ahead", out, x -> x.callIn(0, 99, 1), CANNOT);
        answers("14: one less", out, x -> x.callIn(0, 100, 499), 7);
        answers("14: all of it", out, x -> x.callIn(0, 100, 500), 7);
        refused("14: one more", out, x -> x.callIn(0, 100, 501), CANNOT);
        refused("14: one more", out, x -> x.callIn(0, 199, 501), CANNOT);
        answers("14: at the DAY's end", out, x -> x.callIn(0, 200, 550), 7);
        refused("14: at the DAY's end", out, x -> x.callIn(0, 200, 551), CANNOT);
        refused("14: of another WARD", out, x -> x.callIn(1, 200, 1), CANNOT);
        Scene none = but(out, x -> x.callIn(0, 150, 500));
        refused("14: none is left", none, x -> x.callIn(0, 150, 1), CANNOT);
        // What is CALLED IN on later DAYS isn't looked at.
        answers("14: that DAY alone", none, x -> x.callIn(0, 149, 500), 8);
        refused("14: below 0", but(none, x -> x.callIn(0, 149, 500)),
                x -> x.callIn(0, 150, 1), CANNOT);
    }

    // ---- 15

    private void order() {
        bounds("15: WARD", TWO, 0, 1, w -> x -> x.order(w, 0, 5, 6, 7), w -> 1, UNKNOWN);
        bounds("15: kind", TWO, 0, 1, k -> x -> x.order(0, k, 5, 6, 7), k -> 1, BOUNDS);
        bounds("15: first", TWO, 0, 3599, f -> x -> x.order(0, 0, f, 3599, 7), f -> 1,
                BOUNDS);
        bounds("15: last", TWO, 0, 3599, l -> x -> x.order(0, 0, 0, l, 7), l -> 1, BOUNDS);
        bounds("15: amount", TWO, 1, 99999, a -> x -> x.order(0, 0, 5, 6, a), a -> 1, BOUNDS);
        refused("15: last ahead of first", TWO, x -> x.order(0, 0, 5, 4, 7), BOUNDS);
        answers("15: last is first", TWO, x -> x.order(0, 0, 5, 5, 7), 1);
        answers("15: last behind first", TWO, x -> x.order(0, 0, 5, 6, 7), 1);
        refused("15: turned about", TWO, x -> x.order(0, 0, 3599, 0, 7), BOUNDS);
        orderWhenShut();
        for (int many = 0; many < 12; many++) {
            int told = many;
            answers("15: ORDER " + many, () -> withOrders(told),
                    x -> x.order(1, 1, 0, 3599, 7), told + 1);
        }
        refused("15: a thirteenth", FULL_ORDERS, x -> x.order(0, 0, 0, 0, 7), FULL);
        refused("15: a thirteenth", FULL_ORDERS, x -> x.order(1, 1, 3599, 3599, 7), FULL);
        answers("15: room again", but(FULL_ORDERS, x -> x.undo()),
                x -> x.order(1, 1, 0, 0, 7), 12);
        refused("15: 0 ahead of 1", TWO, x -> x.order(2, 2, -1, -2, 0), UNKNOWN);
        refused("15: 0 ahead of 4", FULL_ORDERS, x -> x.order(-1, 0, 0, 0, 7), UNKNOWN);
        refused("15: 1 ahead of 2", CLOSED, x -> x.order(0, 2, 719, 720, 7), BOUNDS);
        refused("15: 1 ahead of 2", CLOSED, x -> x.order(0, 0, 719, 718, 7), BOUNDS);
        refused("15: 1 ahead of 2", SETTLED, x -> x.order(1, 0, 719, 720, 0), BOUNDS);
        refused("15: 1 ahead of 4", FULL_ORDERS, x -> x.order(0, 0, 0, 3600, 7), BOUNDS);
        refused("15: 2 ahead of 4", but(FULL_ORDERS, x -> x.close(0)),
                x -> x.order(0, 0, 359, 400, 7), SHUT);
        refused("15: nobody", NOBODY, x -> x.order(0, 0, 0, 0, 7), UNKNOWN);
    }

    /** "from a DAY, for ORDERS" */
    private void orderWhenShut() {
        refused("15: from CLOSED DAYS on", CLOSED, x -> x.order(0, 0, 719, 3599, 7), SHUT);
        refused("15: CLOSED DAYS alone", CLOSED, x -> x.order(0, 0, 0, 719, 7), SHUT);
        answers("15: from the next DAY", CLOSED, x -> x.order(0, 0, 720, 720, 7), 1);
        answers("15: YEAR 9 is open", () -> closedOf(9), x -> x.order(0, 0, 3240, 3240, 7), 1);
        refused("15: all CLOSED", ALL_CLOSED, x -> x.order(0, 0, 3599, 3599, 7), SHUT);
        answers("15: of another WARD", ALL_CLOSED, x -> x.order(1, 0, 0, 0, 7), 1);
        refused("15: SETTLED", SETTLED, x -> x.order(1, 0, 3599, 3599, 7), SHUT);
        answers("15: another is SETTLED", SETTLED, x -> x.order(0, 0, 0, 0, 7), 1);
    }

    // ---- 16

    private void ratify() {
        int[] isRatified = {0, 20, 30};
        bounds("16: PAYMENT", TWO, 2, 4, n -> x -> x.ratify(n), n -> isRatified[n - 2],
                UNKNOWN);
        refused("16: a RECEIPT", TWO, x -> x.ratify(0), UNKNOWN);
        refused("16: ahead of the first", TWO, x -> x.ratify(-1), UNKNOWN);
        Scene laid = but(TWO, x -> x.layOut(0, 0, 5), x -> x.callIn(0, 0, 5));
        refused("16: LAID OUT", laid, x -> x.ratify(5), UNKNOWN);
        refused("16: CALLED IN", laid, x -> x.ratify(6), UNKNOWN);
        refused("16: behind the last", laid, x -> x.ratify(7), UNKNOWN);
        refused("16: nobody", NOBODY, x -> x.ratify(0), UNKNOWN);
        refused("16: it was UNDONE", but(TWO, x -> x.undo()), x -> x.ratify(4), UNKNOWN);
        refused("16: RATIFIED", but(TWO, x -> x.ratify(3)), x -> x.ratify(3), CANNOT);
        refused("16: nothing was DISALLOWED", but(TWO, x -> x.ratify(2)), x -> x.ratify(2),
                CANNOT);
        answers("16: another", but(TWO, x -> x.ratify(3)), x -> x.ratify(4), 30);
        answers("16: RATIFIED no more", but(TWO, x -> x.ratify(3), x -> x.undo()),
                x -> x.ratify(3), 20);
        ratifyWhenShut();
        partOfIt();
    }

    private void ratifyWhenShut() {
        Scene both = but(TWO, x -> x.pay(0, 719, 40, 2, 0));
        Scene closed = but(both, x -> x.close(0), x -> x.close(0));
        refused("16: the last CLOSED DAY", closed, x -> x.ratify(5), SHUT);
        answers("16: the next DAY", closed, x -> x.ratify(3), 20);
        answers("16: of another WARD", closed, x -> x.ratify(4), 30);
        answers("16: one YEAR less", but(closed, x -> x.undo()), x -> x.ratify(5), 40);
        refused("16: SETTLED", SETTLED, x -> x.ratify(4), SHUT);
        answers("16: another is SETTLED", SETTLED, x -> x.ratify(3), 20);
        refused("16: 2 ahead of 3", but(both, x -> x.ratify(5), x -> x.close(0),
                x -> x.close(0)), x -> x.ratify(5), SHUT);
        refused("16: 2 ahead of 3", but(TWO, x -> x.ratify(4), x -> x.close(1),
                x -> x.settle(1)), x -> x.ratify(4), SHUT);
        refused("16: 0 of a SETTLED one", SETTLED, x -> x.ratify(1), UNKNOWN);
    }

    /** "what was DISALLOWED of it" */
    private void partOfIt() {
        Scene part = but(TWO, x -> x.order(0, 1, 0, 359, 100), x -> x.pay(0, 5, 99, 1, 20),
                x -> x.pay(0, 5, 2, 1, 21), x -> x.pay(0, 5, 3, 1, 22));
        answers("16: nothing of it", part, x -> x.ratify(5), 0);
        answers("16: one of two", part, x -> x.ratify(6), 1);
        answers("16: all of it", part, x -> x.ratify(7), 3);
        Scene first = but(part, x -> x.ratify(5));
        answers("16: it took nothing then", first, x -> x.ratify(6), 0);
        answers("16: it took nothing then", first, x -> x.ratify(7), 0);
    }

    // ---- 17

    private void close() {
        bounds("17: WARD", TWO, 0, 1, w -> x -> x.close(w), w -> w == 0 ? 990 : 1000,
                UNKNOWN);
        refused("17: nobody", NOBODY, x -> x.close(0), UNKNOWN);
        for (int years = 0; years < 10; years++) {
            int told = years;
            answers("17: YEAR " + years, () -> closedOf(told), x -> x.close(0), 990);
            answers("17: CLOSED ones", () -> closedOf(told), x -> x.wardOf(0, 1), told);
        }
        answers("17: CLOSED ones", ALL_CLOSED, x -> x.wardOf(0, 1), 10);
        refused("17: an eleventh", ALL_CLOSED, x -> x.close(0), CANNOT);
        answers("17: of another WARD", ALL_CLOSED, x -> x.close(1), 1000);
        answers("17: YEAR 9 again", but(ALL_CLOSED, x -> x.undo()), x -> x.close(0), 990);
        refused("17: SETTLED", SETTLED, x -> x.close(1), SHUT);
        answers("17: another is SETTLED", SETTLED, x -> x.close(0), 990);
        Scene both = but(ALL_CLOSED, x -> {
            while (x.wardOf(1, 1) < 10) {
                x.close(1);
            }
            return x.settle(1);
        });
        refused("17: 2 ahead of 3", both, x -> x.close(1), SHUT);
        closeBrings();
        closedStaysSo();
    }

    /** "MONEY on its last DAY, and what it brought": CHARGE less COMMISSION, each cut. */
    private void closeBrings() {
        Scene bare = () -> {
            GuardRolls x = Checks.under("small 0;grace 0;floor 0;rate 10;fee 100");
            x.guardian(0);
            x.ward(0, 0);
            return x;
        };
        answers("17: nothing", bare, x -> x.close(0), 0);
        answers("17: 9 bring nothing", but(bare, x -> x.receive(0, 0, 9, 0)),
                x -> x.close(0), 9);
        answers("17: 10 cost 1", but(bare, x -> x.receive(0, 0, 10, 0)), x -> x.close(0), 9);
        answers("17: 99 cost 9", but(bare, x -> x.receive(0, 0, 99, 0)), x -> x.close(0), 90);
        answers("17: 100 bring 1, cost 10", but(bare, x -> x.receive(0, 0, 100, 0)),
                x -> x.close(0), 91);
        answers("17: the last DAY counts", but(bare, x -> x.receive(0, 359, 10, 0)),
                x -> x.close(0), 9);
        answers("17: the next doesn't", but(bare, x -> x.receive(0, 360, 10, 0)),
                x -> x.close(0), 0);
        answers("17: below 0", but(bare, x -> x.pay(0, 359, 7, 2, 1)), x -> x.close(0), -7);
    }

    /** "as they are then; they stay so" */
    private void closedStaysSo() {
        GuardRolls x = Checks.under("small 0;grace 0;floor 0;rate 100;fee 100");
        x.guardian(0);
        x.ward(0, 0);
        x.order(0, 0, 0, 719, 360);
        x.receive(0, 0, 1000, 0);
        due("17: YEAR 0", x.close(0), 1000);
        x.receive(0, 360, 1000, 0);
        x.pay(0, 360, 100, 0, 1);
        x.order(0, 0, 360, 719, 5);
        due("17: CHARGE stays", x.charge(0, 0), 100);
        due("17: COMMISSION stays", x.commission(0, 0), 100);
        due("17: YEAR 1", x.charge(0, 1), 190);
        due("17: close", x.close(0), 1900 + 190 - 100);
        due("17: YEAR 2 has both", x.money(0, 720), 1990);
        x.undo();
        due("17: UNDONE", x.money(0, 720), 1900);
    }

    // ---- 18

    /** Under age 18, with the first years CLOSED, a WARD BORN so that he is OF AGE on a DAY. */
    private static Scene ofAgeOn(int day, int years) {
        return () -> {
            GuardRolls x = Checks.under("age 18");
            x.guardian(0);
            x.ward(0, 0);
            x.ward(day - 18 * 360, 0);
            x.receive(1, 3599, 70, 0);
            x.receive(1, 3240, 30, 0);
            x.image();
            x.layOut(1, 3240, 20);
            for (int i = 0; i < years; i++) {
                x.close(1);
            }
            return x;
        };
    }

    private void settle() {
        refused("18: no WARD", TWO, x -> x.settle(2), UNKNOWN);
        refused("18: no WARD", TWO, x -> x.settle(-1), UNKNOWN);
        refused("18: no WARD", TWO, x -> x.settle(Integer.MIN_VALUE), UNKNOWN);
        refused("18: no WARD", TWO, x -> x.settle(Integer.MAX_VALUE), UNKNOWN);
        refused("18: nobody", NOBODY, x -> x.settle(0), UNKNOWN);
        refused("18: he is", SETTLED, x -> x.settle(1), SHUT);
        refused("18: another can't be", SETTLED, x -> x.settle(0), CANNOT);
        answers("18: DUE", but(SETTLED, x -> x.undo()), x -> x.settle(1), 1000);
        refused("18: not CLOSED any more", but(SETTLED, x -> x.undo(), x -> x.undo()),
                x -> x.settle(1), CANNOT);
        ofAgeAndClosed();
        tooYoung();
        onceSettled();
    }

    /** "the YEAR of it (YEAR 0, if it is ahead of DAY 0) is CLOSED" */
    private void ofAgeAndClosed() {
        int[] days = {-2520, -360, -1, 0, 1, 359, 360, 361, 719, 720, 3239, 3240, 3598, 3599};
        int[] years = {1, 1, 1, 1, 1, 1, 2, 2, 2, 3, 9, 10, 10, 10};
        for (int i = 0; i < days.length; i++) {
            String name = "18: OF AGE on DAY " + days[i];
            answers(name, ofAgeOn(days[i], 0), x -> x.ofAge(1), days[i]);
            refused(name + ", not CLOSED", ofAgeOn(days[i], years[i] - 1), x -> x.settle(1),
                    CANNOT);
            answers(name + ", CLOSED", ofAgeOn(days[i], years[i]), x -> x.settle(1), 100);
            answers(name + ", all CLOSED", ofAgeOn(days[i], 10), x -> x.settle(1), 100);
            Scene done = but(ofAgeOn(days[i], years[i]), x -> x.settle(1));
            answers(name + ", SETTLED", done, x -> x.wardOf(1, 2), 1);
            refused(name + ", twice", done, x -> x.settle(1), SHUT);
        }
    }

    /** "OF AGE on a DAY to 3599" */
    private void tooYoung() {
        for (int day : new int[] {3600, 3601, 10079}) {
            refused("18: OF AGE on DAY " + day, ofAgeOn(day, 10), x -> x.settle(1), CANNOT);
            refused("18: OF AGE on DAY " + day, ofAgeOn(day, 0), x -> x.settle(1), CANNOT);
        }
    }

    /** What is told of others, and asked of him, goes on; UNDONE, he is as he was. */
    private void onceSettled() {
        answers("18: MONEY is told", SETTLED, x -> x.money(1, 3599), 1000);
        answers("18: SAVED is told", SETTLED, x -> x.saved(1, 360, 5), 0);
        answers("18: MEAN is told", SETTLED, x -> x.mean(1), 1000);
        answers("18: a BOND", SETTLED, x -> x.bond(1, 5), 500);
        answers("18: a WARD", SETTLED, x -> x.ward(5, 1), 2);
        Scene undone = but(SETTLED, x -> x.undo());
        answers("18: a CHANGE", undone, x -> x.change(1, 360, 0), 1);
        answers("18: closing", undone, x -> x.close(1), 1000);
        answers("18: an ORDER", undone, x -> x.order(1, 0, 360, 360, 5), 1);
        answers("18: RATIFIED", undone, x -> x.ratify(4), 30);
    }
}
