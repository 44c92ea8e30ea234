import java.util.function.IntFunction;

/** The edges of the Terms' third block and of promises 32 to 45: GUARDIANS, disputes, saving. */
public final class GuardianEdgeTest extends Edges {
    private static final int[] WILD = {Integer.MIN_VALUE, -1000000000, -2, Integer.MAX_VALUE};

    /** Three GUARDIANS with BONDS 0, 100, 200 and a WARD of the first, who has nothing. */
    private static final Scene BARE =
            under("age 18;small 0;grace 0;floor 0;rate 0;fee 0;cover 1");
    private static final Scene FOUR = but(BARE, x -> x.ward(-9000, 1), x -> x.ward(3599, 2),
            x -> x.ward(7, 0));
    /** 40 PAYMENTS: of the first n + 1 coins are DISALLOWED, for n to 36; three are ALLOWED. */
    private static final Scene FORTY = GuardianEdgeTest::forty;

    public static void main(String[] args) {
        GuardianEdgeTest test = new GuardianEdgeTest();
        test.whose();
        test.bonded();
        test.liable();
        test.dispute();
        test.holder();
        test.again();
        test.needed();
        test.ranked();
        test.missing();
        test.saved();
        test.bestDay();
        test.ofAge();
        test.due();
        test.wardOf();
        test.checks.end("GuardianEdgeTest");
    }

    // ---- what is told

    private static Scene under(String rules) {
        return () -> {
            GuardRolls x = Checks.under(rules);
            x.guardian(0);
            x.guardian(100);
            x.guardian(200);
            x.ward(0, 0);
            return x;
        };
    }

    private static GuardRolls forty() {
        GuardRolls x = FOUR.get();
        for (int n = 0; n < 37; n++) {
            x.pay(n % 4, n, n + 1, 2, 0);
        }
        x.pay(0, 5, 50, 2, 5);
        x.pay(1, 5, 60, 3, 4);
        x.pay(2, 5, 70, 2, 2);
        return x;
    }

    // ---- 32

    private void whose() {
        Scene changed = but(FOUR, x -> x.change(0, 100, 1), x -> x.change(0, 100, 2),
                x -> x.change(0, 101, 0), x -> x.change(0, 3599, 1), x -> x.change(1, 0, 0));
        int[] days = {0, 1, 3598, 3599};
        int[] his = {0, 0, 0, 1};
        told("32: DAY", changed, 0, 3599, d -> x -> x.whose(0, d), d -> at(d, days, his),
                NONE);
        told("32: WARD", changed, 0, 3, w -> x -> x.whose(w, 50), w -> w == 2 ? 2 : 0, NONE);
        answers("32: the DAY ahead", changed, x -> x.whose(0, 99), 0);
        answers("32: who came last on that DAY", changed, x -> x.whose(0, 100), 2);
        answers("32: the next DAY", changed, x -> x.whose(0, 101), 0);
        answers("32: DAY 0", changed, x -> x.whose(1, 0), 0);
        answers("32: DAY 0 UNDONE", but(changed, x -> x.undo()), x -> x.whose(1, 0), 1);
        answers("32: ahead of his birth", changed, x -> x.whose(2, 0), 2);
        not("32: nobody", NOBODY, x -> x.whose(0, 0), NONE);
        not("32: no second", BARE, x -> x.whose(1, 0), NONE);
    }

    // ---- 33

    private void bondedIs(String name, Scene scene, int day, int needed, int tooMuch, int first) {
        answers("33: " + name + ", needed on " + day, scene, x -> x.bonded(0, day, 0), needed);
        answers("33: " + name + ", SHORT on " + day, scene, x -> x.bonded(0, day, 1), tooMuch);
        answers("33: " + name + ", first on " + day, scene, x -> x.bonded(0, day, 2), first);
    }

    private void bonded() {
        Scene edge = but(BARE, x -> x.receive(0, 0, 1, 0), x -> x.receive(0, 1, 2, 0),
                x -> x.receive(0, 3598, 4, 0), x -> x.receive(0, 3599, 8, 0));
        int[] days = {0, 1, 3598, 3599};
        int[] want = {1, 3, 7, 15};
        told("33: DAY", edge, 0, 3599, d -> x -> x.bonded(0, d, 0), d -> at(d, days, want),
                HIDDEN);
        told("33: DAY", edge, 0, 3599, d -> x -> x.bonded(0, d, 2), d -> d, HIDDEN);
        told("33: GUARDIAN", but(FOUR, x -> x.receive(0, 0, 3, 0),
                x -> x.receive(1, 0, 5, 0), x -> x.receive(2, 0, 7, 0)), 0, 2,
                g -> x -> x.bonded(g, 5, 0), g -> 3 + 2 * g, HIDDEN);
        int[] of = {15, 15, 3599};
        told("33: what", edge, 0, 2, w -> x -> x.bonded(0, 3599, w), w -> of[w], HIDDEN);
        for (int w = 0; w < 3; w++) {
            int what = w;
            not("33: nobody", NOBODY, x -> x.bonded(0, 0, what), HIDDEN);
            not("33: neither", BARE, x -> x.bonded(3, 3600, what), HIDDEN);
        }
        greatestSum();
        sumsBelowNought();
        wardsThatAreHis();
        howShort();
        cover();
    }

    /** "the greatest sum, of DAYS to that one", "2 the first DAY of the greatest sum" */
    private void greatestSum() {
        bondedIs("nothing", BARE, 3599, 0, 0, 0);
        Scene once = but(BARE, x -> x.receive(0, 100, 50, 0));
        bondedIs("the DAY ahead", once, 99, 0, 0, 0);
        bondedIs("that DAY", once, 100, 50, 50, 100);
        bondedIs("the next DAY", once, 101, 50, 50, 100);
        Scene less = but(once, x -> x.pay(0, 101, 1, 2, 1));
        bondedIs("one less", less, 101, 50, 50, 100);
        Scene same = but(less, x -> x.receive(0, 102, 1, 0));
        bondedIs("the same again", same, 102, 50, 50, 100);
        Scene more = but(same, x -> x.receive(0, 103, 1, 0));
        bondedIs("the same yet", more, 102, 50, 50, 100);
        bondedIs("one more", more, 103, 51, 51, 103);
        bondedIs("one more for ever", more, 3599, 51, 51, 103);
        bondedIs("MONEY and OUT", but(more, x -> x.layOut(0, 103, 51)), 103, 51, 51, 103);
        Scene both = but(BARE, x -> x.receive(0, 5, 9, 0), x -> x.pay(0, 5, 9, 2, 1));
        bondedIs("at the DAY's end", both, 3599, 0, 0, 0);
        Scene closed = but(under("small 0;grace 0;floor 0;rate 100;fee 0;cover 1"),
                x -> x.receive(0, 0, 1000, 0), x -> x.close(0), x -> x.close(0));
        bondedIs("the last CLOSED DAY", closed, 359, 1000, 1000, 0);
        bondedIs("what was brought", closed, 360, 1100, 1100, 360);
        bondedIs("the second YEAR", closed, 719, 1100, 1100, 360);
        bondedIs("what that brought", closed, 720, 1210, 1210, 720);
    }

    /** "(below 0 counts as it is; 0, if all are below)", "NONE, if all are below 0" */
    private void sumsBelowNought() {
        Scene below = but(BARE, x -> x.pay(0, 0, 5, 2, 1));
        bondedIs("below 0", below, 0, 0, 0, NONE);
        bondedIs("below 0", below, 3599, 0, 0, NONE);
        bondedIs("one below 0", but(below, x -> x.receive(0, 9, 4, 0)), 3599, 0, 0, NONE);
        bondedIs("to 0", but(below, x -> x.receive(0, 9, 5, 0)), 8, 0, 0, NONE);
        bondedIs("to 0", but(below, x -> x.receive(0, 9, 5, 0)), 9, 0, 0, 9);
        bondedIs("above 0", but(below, x -> x.receive(0, 9, 6, 0)), 9, 1, 1, 9);
        bondedIs("0 is not below", but(BARE, x -> x.pay(0, 1, 5, 2, 1)), 3599, 0, 0, 0);
        Scene two = but(below, x -> x.ward(0, 0), x -> x.receive(1, 0, 20, 0));
        bondedIs("of two as it is", two, 5, 15, 15, 0);
        bondedIs("of two all below", but(below, x -> x.ward(0, 0), x -> x.receive(1, 0, 4, 0)), 5,
                0,
                0, NONE);
        bondedIs("his no more", but(below, x -> x.change(0, 7, 1)), 6, 0, 0, NONE);
        bondedIs("nobody's MONEY is 0", but(below, x -> x.change(0, 7, 1)), 7, 0, 0, 7);
    }

    /** "of the WARDS that are his on it" */
    private void wardsThatAreHis() {
        Scene goes = but(BARE, x -> x.receive(0, 0, 50, 0), x -> x.change(0, 100, 1),
                x -> x.receive(0, 100, 30, 0));
        bondedIs("he goes", goes, 3599, 50, 50, 0);
        answers("33: the DAY ahead", goes, x -> x.bonded(1, 99, 0), 0);
        answers("33: he comes", goes, x -> x.bonded(1, 100, 0), 80);
        answers("33: he comes", goes, x -> x.bonded(1, 3599, 2), 100);
        Scene late = but(BARE, x -> x.receive(0, 0, 50, 0), x -> x.change(0, 100, 1),
                x -> x.change(0, 101, 0), x -> x.receive(0, 100, 30, 0), x -> x.pay(0, 101, 31, 2,
                1));
        bondedIs("but for a DAY", late, 3599, 50, 50, 0);
        answers("33: for a DAY", late, x -> x.bonded(1, 3599, 0), 80);
        bondedIs("not on the DAY of more", but(BARE, x -> x.change(0, 5, 1),
                x -> x.receive(0, 5, 9, 0)), 3599, 0, 0, 0);
        bondedIs("on the DAY ahead of it", but(BARE, x -> x.change(0, 6, 1),
                x -> x.receive(0, 5, 9, 0)), 3599, 9, 9, 5);
        Scene comes = but(BARE, x -> x.ward(0, 1), x -> x.receive(1, 0, 40, 0),
                x -> x.receive(0, 0, 2, 0), x -> x.change(1, 70, 0));
        bondedIs("the DAY ahead", comes, 69, 2, 2, 0);
        bondedIs("another's WARD comes", comes, 70, 42, 42, 70);
    }

    /** "SHORT: how much that is above his BOND (0, if it isn't)" */
    private void howShort() {
        Scene hundred = but(BARE, x -> x.receive(0, 0, 100, 0));
        int[] bonds = {1, 98, 99, 100, 101, 999999};
        int[] tooMuch = {99, 2, 1, 0, 0, 0};
        for (int i = 0; i < bonds.length; i++) {
            int bond = bonds[i];
            bondedIs("BOND " + bond, but(hundred, x -> x.bond(0, bond)), 5, 100, tooMuch[i], 0);
        }
        bondedIs("no BOND", hundred, 5, 100, 100, 0);
        bondedIs("UNDONE", but(hundred, x -> x.bond(0, 99), x -> x.undo()), 5, 100, 100, 0);
    }

    private void cover() {
        for (int cover = 1; cover <= 4; cover++) {
            Scene scene = but(under("small 0;cover " + cover), x -> x.receive(0, 3, 50, 0),
                    x -> x.bond(0, 99));
            bondedIs("cover " + cover, scene, 3, 50 * cover, Math.max(0, 50 * cover - 99), 3);
        }
    }

    // ---- 34

    private void liableIs(String name, Scene scene, int what, int... want) {
        for (int g = 0; g < want.length; g++) {
            int guardian = g;
            answers("34: " + name + ", liable(" + g + ", " + what + ")", scene,
                    x -> x.liable(guardian, what), want[g]);
        }
    }

    private void liable() {
        Scene paid = but(FOUR, x -> x.pay(0, 0, 3, 2, 0), x -> x.pay(1, 0, 5, 2, 0),
                x -> x.pay(2, 0, 7, 2, 0));
        told("34: GUARDIAN", paid, 0, 2, g -> x -> x.liable(g, 0), g -> 3 + 2 * g, HIDDEN);
        told("34: what", paid, 0, 2, w -> x -> x.liable(1, w), w -> w == 0 ? 5 : 0, HIDDEN);
        for (int w = 0; w < 3; w++) {
            int what = w;
            not("34: nobody", NOBODY, x -> x.liable(0, what), HIDDEN);
            liableIs("nothing", BARE, what, 0, 0, 0);
        }
        disallowedDays();
        chargeParts();
        noIdle();
        commissionDays();
    }

    /** "on DAYS on which the WARD is his" */
    private void disallowedDays() {
        for (int day = 98; day <= 102; day++) {
            int on = day;
            Scene scene = but(BARE, x -> x.change(0, 100, 1), x -> x.change(0, 101, 2),
                    x -> x.change(0, 101, 0), x -> x.pay(0, on, 9, 2, 0));
            liableIs("DAY " + day, scene, 0, day == 100 ? 0 : 9, day == 100 ? 9 : 0, 0);
        }
        Scene part = but(BARE, x -> x.order(0, 0, 0, 359, 10), x -> x.pay(0, 5, 11, 0, 1));
        liableIs("one of eleven", part, 0, 1, 0, 0);
        liableIs("none of ten", but(part, x -> x.undo(), x -> x.pay(0, 5, 10, 0, 1)), 0, 0, 0, 0);
        liableIs("RATIFIED", but(part, x -> x.ratify(0)), 0, 0, 0, 0);
        liableIs("DAY 3599", but(BARE, x -> x.change(0, 3599, 2), x -> x.pay(0, 3599, 9, 2, 0)),
                0, 0,
                0, 9);
    }

    /** "CHARGE times that by all IDLE of the YEAR, cut" */
    private void chargeParts() {
        Scene thousand = but(under("small 0;grace 0;floor 0;rate 100;fee 0"),
                x -> x.receive(0, 0, 3600, 0));
        liableIs("not CLOSED", thousand, 1, 0, 0, 0);
        liableIs("all his", but(thousand, x -> x.close(0)), 1, 360, 0, 0);
        liableIs("one DAY", but(thousand, x -> x.change(0, 359, 1), x -> x.close(0)), 1, 359, 1, 0);
        liableIs("all but one", but(thousand, x -> x.change(0, 1, 1), x -> x.close(0)), 1, 1, 359,
                0);
        liableIs("from DAY 0", but(thousand, x -> x.change(0, 0, 1), x -> x.close(0)), 1, 0, 360,
                0);
        liableIs("from the next YEAR", but(thousand, x -> x.change(0, 360, 1), x -> x.close(0)), 1,
                360, 0, 0);
        liableIs("two YEARS", but(thousand, x -> x.change(0, 360, 1), x -> x.close(0),
                x -> x.close(0)), 1, 360, 396, 0);
        liableIs("a third each", but(thousand, x -> x.change(0, 120, 1), x -> x.change(0, 240, 2),
                x -> x.close(0)), 1, 120, 120, 120);
        liableIs("UNDONE", but(thousand, x -> x.close(0), x -> x.undo()), 1, 0, 0, 0);
        // 3599 a DAY, 359 in all: 358.002 and 0.997.
        Scene cut = but(under("small 0;grace 0;floor 0;rate 100;fee 0"),
                x -> x.receive(0, 0, 3599, 0), x -> x.change(0, 359, 1), x -> x.close(0));
        liableIs("each is cut", cut, 1, 358, 0, 0);
        // YEAR 0: 180 DAYS of 3600, all the first one's; YEAR 1: 360 of 180, all the second's.
        Scene half = but(under("small 0;grace 0;floor 0;rate 100;fee 0"),
                x -> x.receive(0, 0, 3600, 0), x -> x.pay(0, 180, 3600, 2, 1),
                x -> x.change(0, 180, 1), x -> x.close(0), x -> x.close(0));
        liableIs("each YEAR by its own IDLE", half, 1, 180, 18, 0);
        // 1799 of 1800 are not the CHARGE of 1, nor is 1; all 1800 are.
        Scene one = but(under("small 0;grace 0;floor 0;rate 200;fee 0"), x -> x.receive(0, 0, 5, 0),
                x -> x.receive(0, 358, 4, 0), x -> x.pay(0, 359, 8, 2, 1));
        liableIs("all of 1", but(one, x -> x.close(0)), 1, 1, 0, 0);
        liableIs("nearly 1", but(one, x -> x.change(0, 359, 1), x -> x.close(0)), 1, 0, 0, 0);
    }

    /** "0, if there is none" */
    private void noIdle() {
        Scene none = but(under("small 0;grace 0;floor 9999;rate 200;fee 0"),
                x -> x.receive(0, 0, 9999, 0), x -> x.close(0));
        liableIs("no IDLE", none, 1, 0, 0, 0);
        liableIs("below 0", but(BARE, x -> x.pay(0, 0, 5, 2, 1), x -> x.close(0)), 1, 0, 0, 0);
        liableIs("too little for a CHARGE", but(under("grace 0;floor 9999;rate 200;fee 0"),
                x -> x.receive(0, 0, 10000, 0), x -> x.close(0)), 1, 0, 0, 0);
        liableIs("rate 0", but(BARE, x -> x.receive(0, 0, 10000, 0), x -> x.close(0)), 1, 0, 0, 0);
    }

    /** "that ended while the WARD was his (on the last DAY)" */
    private void commissionDays() {
        Scene fee = but(under("small 0;grace 0;floor 0;rate 0;fee 100"),
                x -> x.receive(0, 0, 1000, 0));
        liableIs("not CLOSED", fee, 2, 0, 0, 0);
        liableIs("all his", but(fee, x -> x.close(0)), 2, 100, 0, 0);
        liableIs("the DAY ahead", but(fee, x -> x.change(0, 358, 1), x -> x.close(0)), 2, 0, 100,
                0);
        liableIs("the last DAY", but(fee, x -> x.change(0, 359, 1), x -> x.close(0)), 2, 0, 100, 0);
        liableIs("the next DAY", but(fee, x -> x.change(0, 360, 1), x -> x.close(0)), 2, 100, 0, 0);
        liableIs("last on that DAY", but(fee, x -> x.change(0, 359, 1), x -> x.change(0, 359, 2),
                x -> x.close(0)), 2, 0, 0, 100);
        liableIs("YEAR 9", but(fee, x -> x.receive(0, 3599, 50, 0), x -> x.change(0, 3599, 2),
                x -> {
            for (int i = 0; i < 10; i++) {
                x.close(0);
            }
            return 0;
        }), 2, 100, 0, 5);
    }

    // ---- 35 to 37: how many, the k-th

    private void listIs(String name, Scene scene, IntFunction<Call> ask,
            int... want) {
        not(name + ", how many", scene, ask.apply(NONE), want.length);
        for (int k = 0; k < want.length; k++) {
            answers(name + ", k " + k, scene, ask.apply(k), want[k]);
        }
        not(name + ", k " + want.length, scene, ask.apply(want.length), NONE);
        answers(name + ", one more", scene, ask.apply(want.length + 1), NONE);
        for (int wild : WILD) {
            answers(name + ", k " + wild, scene, ask.apply(wild), NONE);
        }
    }

    private void dispute() {
        listIs("35: nobody", NOBODY, k -> x -> x.dispute(k));
        listIs("35: none", BARE, k -> x -> x.dispute(k));
        int[] falling = new int[37];
        for (int k = 0; k < 37; k++) {
            falling[k] = 36 - k;
        }
        listIs("35: 37", FORTY, k -> x -> x.dispute(k), falling);
        Scene all = but(BARE, x -> {
            for (int i = 0; i < 40; i++) {
                x.pay(0, 3599 - i, 7, i % 4, 0);
            }
            return 0;
        });
        int[] rising = new int[40];
        for (int k = 0; k < 40; k++) {
            rising[k] = k;
        }
        listIs("35: by numbers", all, k -> x -> x.dispute(k), rising);
        listIs("35: ALLOWED", but(BARE, x -> x.pay(0, 0, 5, 2, 1)), k -> x -> x.dispute(k));
        Scene part = but(BARE, x -> x.order(0, 0, 0, 359, 10), x -> x.pay(0, 5, 10, 0, 1),
                x -> x.pay(0, 360, 2, 2, 0), x -> x.pay(0, 360, 1, 2, 0));
        listIs("35: nothing of ten", part, k -> x -> x.dispute(k), 1, 2);
        Scene more = but(part, x -> x.pay(0, 5, 1, 0, 2), x -> x.pay(0, 5, 2, 0, 3),
                x -> x.pay(0, 5, 3, 0, 4));
        listIs("35: one, two, three", more, k -> x -> x.dispute(k), 5, 1, 4, 2, 3);
        listIs("35: RATIFIED", but(more, x -> x.ratify(1)), k -> x -> x.dispute(k), 5, 4, 2, 3);
    }

    private void holder() {
        told("36: VOUCHER", but(BARE, x -> x.pay(0, 0, 5, 2, 1), x -> x.pay(0, 0, 5, 2, 2),
                x -> x.pay(0, 0, 5, 2, 998), x -> x.pay(0, 0, 5, 2, 999), x -> x.pay(0, 0, 5, 2,
                0)),
                1, 999, v -> x -> x.holder(v), v -> v < 3 ? v - 1 : v - 996, NONE);
        not("36: nobody", NOBODY, x -> x.holder(1), NONE);
        not("36: none", BARE, x -> x.holder(1), NONE);
        Scene two = but(FOUR, x -> x.pay(3, 3599, 5, 0, 500), x -> x.pay(0, 0, 5, 2, 500));
        not("36: the VOUCHER below", two, x -> x.holder(499), NONE);
        answers("36: the lower number", two, x -> x.holder(500), 0);
        not("36: the VOUCHER above", two, x -> x.holder(501), NONE);
        answers("36: UNDONE", but(two, x -> x.undo()), x -> x.holder(500), 0);
        not("36: both UNDONE", but(two, x -> x.undo(), x -> x.undo()), x -> x.holder(500),
                NONE);
        not("36: a RECEIPT has none", but(BARE, x -> x.receive(0, 0, 5, 0)),
                x -> x.holder(NONE), NONE);
        not("36: nor has who has none", FORTY, x -> x.holder(0), NONE);
    }

    private void again() {
        listIs("37: nobody", NOBODY, k -> x -> x.again(k));
        listIs("37: none", FORTY, k -> x -> x.again(k));
        Scene all = but(BARE, x -> {
            for (int i = 0; i < 40; i++) {
                x.pay(0, 3599 - i, 7, i % 4, 999);
            }
            return 0;
        });
        int[] rising = new int[39];
        for (int k = 0; k < 39; k++) {
            rising[k] = k + 1;
        }
        listIs("37: 39", all, k -> x -> x.again(k), rising);
        Scene some = but(BARE, x -> x.pay(0, 9, 5, 2, 1), x -> x.pay(0, 8, 5, 2, 0),
                x -> x.pay(0, 7, 5, 2, 2), x -> x.pay(0, 6, 5, 2, 1), x -> x.pay(0, 5, 5, 2, 0),
                x -> x.pay(0, 4, 5, 2, 2));
        listIs("37: two", some, k -> x -> x.again(k), 3, 5);
        listIs("37: RATIFIED too", but(some, x -> x.ratify(3)), k -> x -> x.again(k), 3, 5);
        listIs("37: UNDONE", but(some, x -> x.undo()), k -> x -> x.again(k), 3);
    }

    // ---- 38

    private void needed() {
        told("38: x", FOUR, 0, 9999999, n -> x -> x.needed(0, n), n -> 0, HIDDEN);
        told("38: WARD", FORTY, 0, 3, w -> x -> x.needed(w, 0), w -> w == 0 ? 10 : 9, HIDDEN);
        not("38: nobody", NOBODY, x -> x.needed(0, 0), HIDDEN);
        // Of WARD 1: 2, 6, 10 .. 34, which are 162.
        int[] most = {162, 128, 98, 72, 50, 32, 18, 8, 2, 0};
        for (int n = 0; n < most.length; n++) {
            int many = n;
            answers("38: " + n + " leave all", FORTY, x -> x.needed(1, most[many]), n);
            answers("38: more", FORTY, x -> x.needed(1, most[many] + 1), n == 0 ? 0 : n);
            if (most[n] > 0) {
                answers("38: one less", FORTY, x -> x.needed(1, most[many] - 1), n + 1);
            }
        }
        Scene same = but(BARE, x -> x.pay(0, 0, 7, 2, 0), x -> x.pay(0, 1, 7, 2, 0),
                x -> x.pay(0, 2, 7, 2, 0));
        int[] want = {3, 3, 3, 3, 3, 3, 3, 2, 2, 2, 2, 2, 2, 2, 1, 1, 1, 1, 1, 1, 1, 0, 0};
        for (int n = 0; n < want.length; n++) {
            int left = n;
            answers("38: of three alike", same, x -> x.needed(0, left), want[n]);
            answers("38: CLOSED", but(same, x -> x.close(0)), x -> x.needed(0, left), want[n]);
        }
        Scene settled = but(FORTY, x -> x.close(1), x -> x.settle(1));
        answers("38: SETTLED", settled, x -> x.needed(1, 0), 9);
        answers("38: SETTLED", settled, x -> x.needed(1, 162), 0);
        answers("38: RATIFIED", but(same, x -> x.ratify(1)), x -> x.needed(0, 13), 1);
        answers("38: RATIFIED", but(same, x -> x.ratify(1)), x -> x.needed(0, 14), 0);
        Scene forty = but(BARE, x -> {
            for (int i = 0; i < 40; i++) {
                x.pay(0, 0, 99999, 2, 0);
            }
            return 0;
        });
        Scene far = but(BARE, x -> x.pay(0, 0, 3, 2, 0), x -> x.pay(0, 3598, 4, 2, 0),
                x -> x.pay(0, 3599, 5, 2, 0));
        int[] few = {3, 3, 3, 2, 2, 2, 2, 1, 1, 1, 1, 1, 0, 0};
        for (int n = 0; n < few.length; n++) {
            int left = n;
            answers("38: from the first DAY to the last", far, x -> x.needed(0, left), few[n]);
        }
        answers("38: all forty", forty, x -> x.needed(0, 0), 40);
        answers("38: all but one", forty, x -> x.needed(0, 99999), 39);
        answers("38: nearly all", forty, x -> x.needed(0, 40 * 99999 - 1), 1);
        answers("38: none", forty, x -> x.needed(0, 40 * 99999), 0);
        answers("38: greatest x", forty, x -> x.needed(0, 9999999), 0);
        asTheyAreNow();
    }

    /** "DISALLOWED of his others as they are now": what RATIFYING would free isn't looked at. */
    private void asTheyAreNow() {
        Scene scene = but(BARE, x -> x.order(0, 0, 0, 359, 10), x -> x.pay(0, 1, 15, 0, 1),
                x -> x.pay(0, 2, 8, 0, 2));
        answers("38: 5 and 8", scene, x -> x.needed(0, 12), 1);
        answers("38: 5 are left", scene, x -> x.needed(0, 5), 1);
        answers("38: not 4", scene, x -> x.needed(0, 4), 2);
        answers("38: both", scene, x -> x.needed(0, 0), 2);
        answers("38: neither", scene, x -> x.needed(0, 13), 0);
    }

    // ---- 39

    private void rankedIs(String name, Scene scene, int day, int... want) {
        for (int k = 0; k < want.length; k++) {
            int place = k;
            answers("39: " + name + ", k " + k, scene, x -> x.ranked(day, place), want[k]);
        }
    }

    private void ranked() {
        told("39: k", BARE, 0, 2, k -> x -> x.ranked(0, k), k -> k, NONE);
        told("39: DAY", BARE, 0, 3599, d -> x -> x.ranked(d, 2), d -> 2, NONE);
        not("39: nobody", NOBODY, x -> x.ranked(0, 0), NONE);
        not("39: nobody", NOBODY, x -> x.ranked(0, NONE), NONE);
        told("39: one alone", but(NOBODY, x -> x.guardian(5)), 0, 0, k -> x -> x.ranked(9, k),
                k -> 0, NONE);
        Scene two = but(NOBODY, x -> x.guardian(5), x -> x.guardian(4));
        told("39: of two", two, 0, 1, k -> x -> x.ranked(9, k), k -> 1 - k, NONE);
        rankedIs("BOND one less", two, 9, 1, 0);
        rankedIs("BOND alike", but(two, x -> x.bond(1, 5)), 9, 0, 1);
        rankedIs("BOND one more", but(two, x -> x.bond(1, 6)), 9, 0, 1);
        // SHORT 50 each: WARD 1 of GUARDIAN 1 with BOND 100, WARD 0 of GUARDIAN 0 with none.
        Scene alike = but(FOUR, x -> x.receive(0, 10, 50, 0), x -> x.receive(1, 10, 150, 0));
        rankedIs("nobody is SHORT", alike, 9, 0, 1, 2);
        rankedIs("SHORT alike", alike, 10, 0, 1, 2);
        rankedIs("SHORT by one more", but(alike, x -> x.receive(1, 11, 1, 0)), 11, 1, 0, 2);
        rankedIs("the DAY ahead", but(alike, x -> x.receive(1, 11, 1, 0)), 10, 0, 1, 2);
        rankedIs("SHORT by one less", but(alike, x -> x.receive(0, 11, 1, 0)), 11, 0, 1, 2);
        rankedIs("the last first", but(alike, x -> x.receive(2, 11, 251, 0)), 11, 2, 0, 1);
        rankedIs("SHORT alike, BOND more", but(alike, x -> x.receive(2, 11, 250, 0)), 11, 0, 1, 2);
        rankedIs("not SHORT is 0", but(alike, x -> x.bond(0, 100), x -> x.bond(1, 150),
                x -> x.bond(2, 149)), 10, 0, 2, 1);
        rankedIs("by numbers", but(alike, x -> x.bond(0, 150), x -> x.bond(1, 150),
                x -> x.bond(2, 150)), 10, 0, 1, 2);
    }

    // ---- 40

    private static int[] to(int last) {
        int[] all = new int[last];
        for (int i = 0; i < last; i++) {
            all[i] = i + 1;
        }
        return all;
    }

    private static Scene paidWith(int... vouchers) {
        return but(BARE, x -> {
            for (int v : vouchers) {
                x.pay(0, 5, 1, 0, v);
            }
            return 0;
        });
    }

    private void missing() {
        listIs("40: nobody", NOBODY, k -> x -> x.missing(k));
        listIs("40: none", BARE, k -> x -> x.missing(k));
        listIs("40: no VOUCHER", paidWith(0, 0), k -> x -> x.missing(k));
        listIs("40: 1", paidWith(1), k -> x -> x.missing(k));
        listIs("40: 2", paidWith(2), k -> x -> x.missing(k), 1);
        listIs("40: 2, 1", paidWith(2, 1), k -> x -> x.missing(k));
        listIs("40: 2, 2", paidWith(2, 2, 0), k -> x -> x.missing(k), 1);
        listIs("40: 3", paidWith(3), k -> x -> x.missing(k), 1, 2);
        listIs("40: 1, 3", paidWith(1, 3), k -> x -> x.missing(k), 2);
        listIs("40: 3, 2", paidWith(3, 2), k -> x -> x.missing(k), 1);
        listIs("40: 6, 3", paidWith(6, 3, 6, 3), k -> x -> x.missing(k), 1, 2, 4, 5);
        listIs("40: 6, 7, 2", paidWith(6, 7, 2, 0, 7), k -> x -> x.missing(k), 1, 3, 4, 5);
        listIs("40: 998", paidWith(998), k -> x -> x.missing(k), to(997));
        listIs("40: 999", paidWith(999), k -> x -> x.missing(k), to(998));
        listIs("40: 998, 999", paidWith(999, 998), k -> x -> x.missing(k), to(997));
        listIs("40: UNDONE", but(paidWith(4, 999), x -> x.undo()), k -> x -> x.missing(k), 1, 2, 3);
        int[] all = to(40);
        listIs("40: all forty", paidWith(all), k -> x -> x.missing(k));
        all[0] = 41;
        listIs("40: but one", paidWith(all), k -> x -> x.missing(k), 1);
        all[39] = 42;
        listIs("40: but two", paidWith(all), k -> x -> x.missing(k), 1, 40);
    }

    // ---- 41, 42

    private static Scene idleHundred(int grace) {
        return but(under("age 18;small 0;grace " + grace + ";floor 0;rate 100;fee 0"),
                x -> x.ward(0, 0), x -> x.receive(0, 0, 3600, 0), x -> x.receive(1, 0, 7200, 0));
    }

    private void saved() {
        Scene scene = idleHundred(0);
        told("41: amount", scene, 1, 99999, a -> x -> x.saved(0, 0, a),
                a -> a > 3600 ? 360 : 1, HIDDEN);
        int[] days = {0, 1, 3598, 3599};
        int[] want = {360, 359, 2, 1};
        told("41: DAY", scene, 0, 3599, d -> x -> x.saved(0, d, 3600), d -> at(d, days, want),
                HIDDEN);
        told("41: WARD", scene, 0, 1, w -> x -> x.saved(w, 0, 99999), w -> 360 * (w + 1),
                HIDDEN);
        not("41: nobody", NOBODY, x -> x.saved(0, 0, 1), HIDDEN);
        answers("41: one less than all", scene, x -> x.saved(0, 0, 3599), 360);
        answers("41: all", scene, x -> x.saved(0, 0, 3600), 360);
        answers("41: one more than all", scene, x -> x.saved(0, 0, 3601), 360);
        answers("41: half", scene, x -> x.saved(0, 0, 1800), 180);
        answers("41: its own YEAR alone", scene, x -> x.saved(0, 359, 3600), 1);
        answers("41: the next YEAR", scene, x -> x.saved(0, 360, 3600), 360);
        answers("41: nothing is IDLE", BARE, x -> x.saved(0, 0, 99999), 0);
        answers("41: nothing is LAID OUT", but(scene, x -> x.saved(0, 0, 3600)),
                x -> x.out(0, 0), 0);
        savedWhenClosed();
        Scene late = idleHundred(10);
        answers("41: within grace", late, x -> x.saved(0, 10, 3600), 350);
        answers("41: behind it", late, x -> x.saved(0, 11, 3600), 349);
    }

    /** "HIDDEN: .. its YEAR is CLOSED" */
    private void savedWhenClosed() {
        Scene one = but(idleHundred(0), x -> x.close(0));
        not("41: DAY 0", one, x -> x.saved(0, 0, 3600), HIDDEN);
        not("41: the last CLOSED DAY", one, x -> x.saved(0, 359, 3600), HIDDEN);
        answers("41: the next DAY", one, x -> x.saved(0, 360, 3600), 360);
        answers("41: of another WARD", one, x -> x.saved(1, 359, 3600), 1);
        answers("41: UNDONE", but(one, x -> x.undo()), x -> x.saved(0, 359, 3600), 1);
        Scene nine = but(BARE, x -> {
            for (int i = 0; i < 9; i++) {
                x.close(0);
            }
            return 0;
        });
        not("41: YEAR 8", nine, x -> x.saved(0, 3239, 5), HIDDEN);
        answers("41: YEAR 9", nine, x -> x.saved(0, 3240, 5), 0);
        not("41: all ten", but(nine, x -> x.close(0)), x -> x.saved(0, 3599, 5), HIDDEN);
    }

    private void bestDay() {
        Scene scene = idleHundred(0);
        told("42: YEAR", scene, 0, 9, y -> x -> x.bestDay(0, y, 5, 0), y -> 360 * y, HIDDEN);
        told("42: amount", scene, 1, 99999, a -> x -> x.bestDay(0, 0, a, 1),
                a -> a > 3600 ? 360 : 1, HIDDEN);
        told("42: WARD", scene, 0, 1, w -> x -> x.bestDay(w, 0, 99999, 1),
                w -> 360 * (w + 1), HIDDEN);
        told("42: what", scene, 0, 1, w -> x -> x.bestDay(0, 2, 3600, w),
                w -> w == 0 ? 720 : 360, HIDDEN);
        not("42: nobody", NOBODY, x -> x.bestDay(0, 0, 1, 0), HIDDEN);
        for (int year = 0; year < 10; year++) {
            int y = year;
            answers("42: nothing to save", BARE, x -> x.bestDay(0, y, 99999, 0), 360 * year);
            answers("42: nothing to save", BARE, x -> x.bestDay(0, y, 99999, 1), 0);
        }
        // From DAY 0 to 100 as much is SAVED: the first of these.
        Scene late = but(under("small 0;grace 0;floor 0;rate 100;fee 0"),
                x -> x.receive(0, 100, 3600, 0));
        answers("42: of several", late, x -> x.saved(0, 100, 3600), 260);
        answers("42: of several the first", late, x -> x.bestDay(0, 0, 3600, 0), 0);
        answers("42: as much", late, x -> x.bestDay(0, 0, 3600, 1), 260);
        Scene one = but(scene, x -> x.close(0));
        not("42: CLOSED", one, x -> x.bestDay(0, 0, 5, 0), HIDDEN);
        not("42: CLOSED", one, x -> x.bestDay(0, 0, 5, 1), HIDDEN);
        answers("42: the next YEAR", one, x -> x.bestDay(0, 1, 5, 0), 360);
        answers("42: of another WARD", one, x -> x.bestDay(1, 0, 5, 0), 0);
        answers("42: UNDONE", but(one, x -> x.undo()), x -> x.bestDay(0, 0, 5, 0), 0);
        bestIsBest(idleHundred(90), 0);
        bestIsBest(but(idleHundred(5), x -> x.pay(0, 100, 3600, 2, 1),
                x -> x.receive(0, 200, 5000, 0)), 0);
        bestIsBest(but(idleHundred(0), x -> x.pay(0, 700, 99999, 2, 1)), 1);
    }

    /** No DAY of the YEAR saves more than its BEST DAY, none ahead of that as much. */
    private void bestIsBest(Scene scene, int year) {
        GuardRolls x = scene.get();
        int day = x.bestDay(0, year, 4000, 0);
        int saved = x.bestDay(0, year, 4000, 1);
        for (int d = 360 * year; d < 360 * year + 360; d++) {
            boolean better = x.saved(0, d, 4000) > saved
                    || x.saved(0, d, 4000) == saved && d < day;
            due("42: better on DAY " + d, better ? 1 : 0, 0);
            x = scene.get();
        }
        due("42: SAVED on it", x.saved(0, day, 4000), saved);
    }

    // ---- 43 to 45

    private void ofAge() {
        for (int age = 18; age <= 25; age++) {
            int years = age;
            Scene scene = but(under("age " + age), x -> x.ward(-9000, 0),
                    x -> x.ward(3599, 0), x -> x.ward(-1, 0));
            int[] born = {0, -9000, 3599, -1};
            told("43: WARD", scene, 0, 3, w -> x -> x.ofAge(w), w -> born[w] + 360 * years,
                    HIDDEN);
        }
        not("43: nobody", NOBODY, x -> x.ofAge(0), HIDDEN);
        not("43: no second", BARE, x -> x.ofAge(1), HIDDEN);
    }

    private void due() {
        told("44: WARD", but(FOUR, x -> x.receive(0, 3599, 1, 0), x -> x.receive(1, 0, 2, 0),
                x -> x.receive(3, 5, 9, 0), x -> x.layOut(3, 3599, 5)), 0, 3, w -> x -> x.due(w),
                w -> w == 2 ? 0 : w == 3 ? 9 : w + 1, HIDDEN);
        not("44: nobody", NOBODY, x -> x.due(0), HIDDEN);
        not("44: nothing", BARE, x -> x.due(0), 0);
        answers("44: below 0", but(BARE, x -> x.pay(0, 3599, 5, 2, 1)), x -> x.due(0), -5);
        Scene nine = but(under("small 0;grace 0;floor 0;rate 100;fee 0"),
                x -> x.receive(0, 3239, 3600, 0), x -> {
                    for (int i = 0; i < 9; i++) {
                        x.close(0);
                    }
                    return 0;
                });
        answers("44: YEAR 8 is in it", nine, x -> x.due(0), 3601);
        answers("44: YEAR 9 isn't", but(nine, x -> x.close(0)), x -> x.due(0), 3601);
    }

    private void wardOf() {
        int[] born = {0, -9000, 3599, 7};
        told("45: WARD", FOUR, 0, 3, w -> x -> x.wardOf(w, 0), w -> born[w], HIDDEN);
        Scene much = but(FOUR, x -> x.change(1, 5, 0), x -> x.change(1, 6, 1), x -> x.close(1),
                x -> x.close(1), x -> x.close(1), x -> x.settle(1));
        int[] of = {-9000, 3, 1, 2};
        told("45: what", much, 0, 3, w -> x -> x.wardOf(1, w), w -> of[w], HIDDEN);
        for (int what = 1; what < 4; what++) {
            int w = what;
            answers("45: of another", much, x -> x.wardOf(0, w), 0);
            answers("45: wardOf(1, " + w + ")", much, x -> x.wardOf(1, w), of[w]);
            not("45: nobody", NOBODY, x -> x.wardOf(0, w), HIDDEN);
        }
        answers("45: SETTLED UNDONE", but(much, x -> x.undo()), x -> x.wardOf(1, 2), 0);
        answers("45: CLOSED UNDONE", but(much, x -> x.undo(), x -> x.undo()),
                x -> x.wardOf(1, 1), 2);
    }
}
