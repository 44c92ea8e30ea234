import java.util.Arrays;

/** The edges of promises 47 to 52: ACTS UNDONE, the IMAGE, STATUS, who has most, how many. */
public final class MoreEdgeTest extends Edges {
    private static final Scene BARE =
            under("age 18;small 0;grace 0;floor 0;rate 100;fee 50;cover 1");

    /** One ACT of each sort, in an order in which each comes. */
    private static final Call[] ACTS = {x -> x.guardian(7), x -> x.bond(0, 8),
        x -> x.ward(-9000, 1), x -> x.change(0, 100, 1), x -> x.receive(0, 0, 3600, 1),
        x -> x.receive(1, 0, 7200, 2), x -> x.order(0, 0, 0, 719, 60), x -> x.pay(0, 9, 70, 0, 5),
        x -> x.pay(1, 9, 80, 2, 5), x -> x.layOut(0, 9, 1000), x -> x.callIn(0, 700, 400),
        x -> x.ratify(2), x -> x.close(0), x -> x.close(1), x -> x.close(0), x -> x.settle(1)};

    public static void main(String[] args) {
        MoreEdgeTest test = new MoreEdgeTest();
        test.undo();
        test.image();
        test.back();
        test.status();
        test.most();
        test.count();
        test.checks.end("MoreEdgeTest");
    }

    // ---- what is told

    private static Scene under(String rules) {
        return () -> {
            GuardRolls x = Checks.under(rules);
            x.guardian(0);
            x.guardian(100);
            x.ward(0, 0);
            return x;
        };
    }

    /** The first so many ACTS. */
    private static Scene acted(int many) {
        return but(BARE, Arrays.copyOf(ACTS, many));
    }

    private static Call undone(int times) {
        return x -> {
            for (int i = 0; i < times; i++) {
                x.undo();
            }
            return 0;
        };
    }

    // ---- 47

    private void undo() {
        not("47: a new object", NOBODY, x -> x.undo(), NONE);
        not("47: under RULES", () -> Checks.under("age 20"), x -> x.undo(), NONE);
        answers("47: one", but(NOBODY, x -> x.guardian(5)), x -> x.undo(), 0);
        answers("47: it is gone", but(NOBODY, x -> x.guardian(5), x -> x.undo()),
                x -> x.count(3), 0);
        not("47: no second", but(NOBODY, x -> x.guardian(5), x -> x.undo()), x -> x.undo(),
                NONE);
        eachActUndone();
        tenAtMost();
        refusedIsNoAct();
    }

    /** Behind each ACT, UNDONE, all is as it was ahead of it; so it is told again. */
    private void eachActUndone() {
        for (int many = 0; many < ACTS.length; many++) {
            String name = "47: ACT " + many;
            Scene ahead = acted(many);
            Scene back = but(acted(many + 1), x -> x.undo());
            sameNow(name + " UNDONE", back, ahead);
            sameNow(name + " told again", but(back, ACTS[many]), acted(many + 1));
            int could = Math.min(many + 3, 9);
            answers(name + ", how many", acted(many + 1), x -> x.undo(), could);
            answers(name + ", count", acted(many + 1), x -> x.count(1), could + 1);
        }
        for (int times = 1; times <= 10; times++) {
            sameNow("47: " + times + " UNDONE", but(acted(16), undone(times)), acted(16 - times));
        }
    }

    /** "the latest 10 can be UNDONE" */
    private void tenAtMost() {
        for (int acts = 0; acts <= 13; acts++) {
            int many = acts;
            Scene scene = but(NOBODY, x -> x.guardian(0), x -> x.undo(), x -> {
                x.guardian(0);
                for (int i = 1; i < many; i++) {
                    x.bond(0, i);
                }
                return many == 0 ? x.undo() : 0;
            });
            int could = Math.min(acts, 10);
            answers("47: " + acts + " ACTS", scene, x -> x.count(1), could);
            for (int times = 1; times <= 11; times++) {
                answers("47: " + acts + " ACTS, UNDO " + times, but(scene, undone(times - 1)),
                        x -> x.undo(), times <= could ? could - times : NONE);
            }
            if (acts > 10) {
                answers("47: older ones stay", but(scene, undone(11)), x -> x.bond(0, 99),
                        acts - 11);
            }
        }
        Scene more = but(BARE, x -> {
            for (int i = 0; i < 12; i++) {
                x.receive(0, i, 1, 0);
            }
            return 0;
        });
        sameNow("47: eleven times", but(more, undone(11)), but(more, undone(10)));
        answers("47: two stay", but(more, undone(11)), x -> x.count(4), 2);
        answers("47: UNDONE, then ten more", but(more, undone(4), x -> x.receive(0, 0, 1, 0)),
                x -> x.count(1), 7);
    }

    /** Refused ACTS, questions, an IMAGE, the TAPE can't be UNDONE. */
    private void refusedIsNoAct() {
        Scene acted = acted(8);
        Call[] none = {x -> x.guardian(-1), x -> x.bond(0, 8), x -> x.ward(0, 9),
            x -> x.change(0, 100, 1), x -> x.receive(0, 3600, 1, 0), x -> x.pay(0, 0, 1, 4, 0),
            x -> x.layOut(0, 0, 99999), x -> x.callIn(0, 0, 1), x -> x.order(0, 2, 0, 0, 1),
            x -> x.ratify(0), x -> x.close(2), x -> x.settle(0), x -> x.image(),
            x -> x.feed(0x61676520, 0, 0, 0, 0), x -> x.end(0) ? 1 : 0, x -> x.money(0, 0)};
        for (int i = 0; i < none.length; i++) {
            answers("47: no ACT " + i, but(acted, none[i]), x -> x.count(1), 10);
            answers("47: no ACT " + i, but(acted, none[i]), x -> x.undo(), 9);
            answers("47: the ACT ahead", but(acted, none[i], x -> x.undo()), x -> x.count(4),
                    2);
        }
    }

    // ---- 48

    private void image() {
        answers("48: nobody", NOBODY, x -> x.image(), 0);
        answers("48: none", BARE, x -> x.image(), 0);
        for (int many : new int[] {1, 2, 39, 40}) {
            Scene scene = but(BARE, x -> {
                for (int i = 0; i < many; i++) {
                    x.receive(0, i, 5, 0);
                }
                return 0;
            });
            answers("48: ENTRIES", scene, x -> x.image(), many);
            answers("48: it is kept", but(scene, x -> x.image(), undone(1)), x -> x.back(),
                    many);
            sameNow("48: changes nothing", but(scene, x -> x.image()), scene);
            answers("48: instead of the one ahead", but(BARE, x -> x.image(),
                    x -> x.receive(0, 0, 5, 0), x -> x.image(), x -> x.receive(0, 0, 5, 0)),
                    x -> x.back(), 1);
        }
        Scene full = but(BARE, x -> x.ward(0, 1), x -> x.ward(1, 1), x -> x.ward(2, 1), x -> {
            for (int i = 0; i < 12; i++) {
                x.order(i % 4, i % 2, 0, 359, i + 1);
                x.change(3, i, i % 2);
            }
            for (int i = 0; i < 40; i++) {
                x.pay(i % 4, i, 10, i % 2, i);
            }
            for (int i = 0; i < 10; i++) {
                x.close(3);
            }
            return x.guardian(5);
        });
        answers("48: full", full, x -> x.image(), 40);
        sameNow("48: full, and BACK", but(full, x -> x.image(), undone(10), x -> x.back()), full);
        answers("48: can be UNDONE behind it", but(acted(7), x -> x.image()), x -> x.undo(), 9);
        sameNow("48: UNDONE behind it", but(acted(8), x -> x.image(), undone(3)), acted(5));
    }

    // ---- 49

    private void back() {
        not("49: nobody", NOBODY, x -> x.back(), NONE);
        not("49: no IMAGE", acted(16), x -> x.back(), NONE);
        answers("49: of nobody", but(NOBODY, x -> x.image(), x -> x.guardian(5)),
                x -> x.back(), 0);
        answers("49: nobody again", but(NOBODY, x -> x.image(), x -> x.guardian(5),
                x -> x.back()), x -> x.count(3), 0);
        for (int kept = 0; kept <= ACTS.length; kept++) {
            Scene image = but(acted(kept), x -> x.image());
            Call[] later = Arrays.copyOfRange(ACTS, kept, ACTS.length);
            Scene behind = but(image, later);
            String name = "49: IMAGE behind " + kept;
            sameNow(name, but(behind, x -> x.back()), acted(kept));
            sameNow(name + ", at once", but(image, x -> x.back()), acted(kept));
            sameNow(name + ", twice", but(behind, x -> x.back(), x -> x.guardian(1), x -> x.back()),
                    acted(kept));
            sameNow(name + ", told again", but(but(behind, x -> x.back()), later),
                    acted(ACTS.length));
            sameNow(name + ", UNDONE behind it", but(image, undone(4), x -> x.guardian(9),
                    x -> x.ward(5, 0), x -> x.receive(0, 3000, 8, 0), x -> x.back()),
                    acted(kept));
            not(name + ", no UNDO", but(behind, x -> x.back()), x -> x.undo(), NONE);
            answers(name + ", an ACT", but(behind, x -> x.back(), x -> x.bond(0, 55)),
                    x -> x.undo(), 0);
        }
        toldInItsPlace();
        toldOtherwise();
        Scene anew = but(acted(8), x -> x.image(), x -> x.end(0) ? x.rules() : 0);
        not("49: RULES told anew", anew, x -> x.back(), NONE);
        answers("49: STATUS stays", but(BARE, x -> x.image(), x -> x.guardian(-1),
                x -> x.back()), x -> x.status(1), 1);
    }

    /** What is told in the place of what came behind the IMAGE has nothing of that. */
    private void toldInItsPlace() {
        Scene back = but(BARE, x -> x.image(), x -> x.pay(0, 0, 9, 2, 5), x -> x.ratify(0),
                x -> x.order(0, 0, 0, 359, 8), x -> x.ward(5, 0), x -> x.change(1, 7, 1),
                x -> x.close(1), x -> x.back(), x -> x.pay(0, 5, 9, 2, 0),
                x -> x.order(0, 1, 0, 359, 4), x -> x.ward(6, 1));
        sameNow("49: told in its place", back, but(BARE, x -> x.pay(0, 5, 9, 2, 0),
                x -> x.order(0, 1, 0, 359, 4), x -> x.ward(6, 1)));
        Scene undone = but(BARE, x -> x.pay(0, 0, 9, 2, 5), x -> x.ratify(0),
                x -> x.order(0, 0, 0, 359, 8), x -> x.ward(5, 0), x -> x.change(1, 7, 1),
                x -> x.close(1), undone(6), x -> x.pay(0, 5, 9, 2, 0),
                x -> x.order(0, 1, 0, 359, 4), x -> x.ward(6, 1));
        sameNow("47: told in its place", undone, but(BARE, x -> x.pay(0, 5, 9, 2, 0),
                x -> x.order(0, 1, 0, 359, 4), x -> x.ward(6, 1)));
    }

    /** What is UNDONE behind the IMAGE, and told otherwise, comes BACK as it was. */
    private void toldOtherwise() {
        Scene kept = but(BARE, x -> x.guardian(9), x -> x.ward(-9000, 1),
                x -> x.order(0, 0, 0, 359, 8), x -> x.receive(0, 0, 3600, 0),
                x -> x.pay(0, 5, 9, 0, 4), x -> x.change(0, 9, 1), x -> x.change(0, 70, 0),
                x -> x.close(0), x -> x.image());
        Scene back = but(kept, undone(7), x -> x.ward(3, 0), x -> x.order(1, 1, 360, 719, 80),
                x -> x.pay(1, 360, 90, 1, 6), x -> x.receive(0, 1, 7200, 3),
                x -> x.change(0, 8, 2), x -> x.change(0, 80, 1), x -> x.close(0), x -> x.back());
        sameNow("49: told otherwise", back, kept);
        answers("49: CHANGES", back, x -> x.whose(0, 8), 0);
        answers("49: CHANGES", back, x -> x.whose(0, 70), 0);
        answers("49: CHARGE", back, x -> x.charge(0, 0), 359);
        answers("49: COMMISSION", back, x -> x.commission(0, 0), 180);
        answers("49: ORDER", back, x -> x.allowance(0, 0, 0), 8);
        sameNow("49: and once more", but(back, x -> x.order(0, 0, 360, 719, 5), x -> x.close(0),
                x -> x.back()), kept);
    }

    // ---- 50

    private void status() {
        Scene all = but(BARE, x -> {
            x.close(9);
            for (int i = 0; i < 2; i++) {
                x.guardian(-1);
            }
            x.close(0);
            for (int i = 0; i < 3; i++) {
                x.receive(0, 0, 1, 0);
            }
            for (int i = 0; i < 4; i++) {
                x.settle(0);
            }
            x.guardian(0);
            for (int i = 0; i < 5; i++) {
                x.guardian(0);
            }
            return 0;
        });
        told("50: what", all, 0, 4, w -> x -> x.status(w), w -> w + 1, NONE);
        for (int what = 0; what < 5; what++) {
            int w = what;
            not("50: status(" + w + ")", all, x -> x.status(w), w + 1);
            answers("50: of a new object", NOBODY, x -> x.status(w), 0);
            answers("50: UNDONE", but(all, undone(10)), x -> x.status(w), w + 1);
            answers("50: the IMAGE is BACK", but(all, x -> x.image(), x -> x.back()),
                    x -> x.status(w), w + 1);
            answers("50: RULES anew", but(all, x -> x.end(0) ? x.rules() : 0),
                    x -> x.status(w), w + 1);
            answers("50: none of them is an ACT", but(all, x -> x.undo(), x -> x.back(),
                    x -> x.money(9, 9), x -> x.feed(1, 1, 1, 1, 1), x -> x.rules(),
                    x -> x.end(99) ? 1 : 0, x -> x.status(9), x -> x.holder(0),
                    x -> entry(x, 99, 99), x -> x.saved(0, 0, 0), x -> x.needed(0, -1)),
                    x -> x.status(w), w + 1);
        }
    }

    // ---- 51

    private void mostIs(String name, Scene scene, int day, int estate, int idle, int tooMuch) {
        int[] want = {estate, idle, tooMuch};
        for (int what = 0; what < 3; what++) {
            int w = what;
            not("51: " + name + ", most(" + day + ", " + w + ")", scene, x -> x.most(day, w),
                    want[w]);
        }
    }

    private void most() {
        mostIs("nobody", NOBODY, 0, NONE, NONE, NONE);
        mostIs("no WARD", but(NOBODY, x -> x.guardian(0)), 3599, NONE, NONE, 0);
        mostIs("one alone", BARE, 0, 0, 0, 0);
        mostIs("one alone, below 0", but(BARE, x -> x.pay(0, 0, 5, 2, 1)), 0, 0, 0, 0);
        Scene two = but(BARE, x -> x.ward(0, 1), x -> x.receive(0, 5, 50, 0),
                x -> x.receive(1, 5, 50, 0));
        told("51: what", two, 0, 2, w -> x -> x.most(7, w), w -> 0, NONE);
        told("51: DAY", but(two, x -> x.receive(1, 0, 900, 0)), 0, 3599,
                d -> x -> x.most(d, 2), d -> 1, NONE);
        mostIs("of several the lowest", two, 5, 0, 0, 0);
        mostIs("one more", but(two, x -> x.receive(1, 6, 1, 0)), 6, 1, 1, 0);
        mostIs("the DAY ahead", but(two, x -> x.receive(1, 6, 1, 0)), 5, 0, 0, 0);
        mostIs("one less", but(two, x -> x.pay(0, 6, 1, 2, 1)), 6, 1, 1, 0);
        mostIs("LAID OUT", but(two, x -> x.layOut(0, 6, 1)), 6, 0, 1, 0);
        mostIs("both below 0", but(two, x -> x.pay(0, 6, 59, 2, 1), x -> x.pay(1, 6, 58, 2, 2)), 6,
                1, 0, 0);
        mostIs("SHORT alike", but(two, x -> x.receive(1, 6, 100, 0)), 6, 1, 1, 0);
        mostIs("SHORT by one more", but(two, x -> x.receive(1, 6, 101, 0)), 6, 1, 1, 1);
        mostIs("not SHORT at all", but(two, x -> x.bond(0, 999)), 6, 0, 0, 0);
        Scene full = but(two, x -> x.guardian(0), x -> x.ward(0, 2), x -> x.ward(0, 2),
                x -> x.receive(3, 3599, 51, 0));
        mostIs("the last of them", full, 3599, 3, 3, 2);
        mostIs("the DAY ahead", full, 3598, 0, 0, 0);
        Scene floor = but(under("grace 0;floor 100;cover 1"), x -> x.ward(0, 1),
                x -> x.receive(1, 0, 100, 0), x -> x.receive(1, 1, 1, 0));
        mostIs("nothing is IDLE", floor, 0, 1, 0, 0);
        mostIs("one is IDLE", floor, 1, 1, 1, 1);
    }

    // ---- 52

    private void count() {
        Scene much = but(acted(11), x -> x.order(0, 0, 0, 0, 1), x -> x.order(0, 0, 0, 0, 1),
                x -> x.order(0, 0, 0, 0, 1), x -> x.feed(1, 2, 3, 4, 0));
        int[] want = {4, 10, 2, 3, 6, 4};
        told("52: what", much, 0, 5, w -> x -> x.count(w), w -> want[w], NONE);
        for (int what = 0; what < 6; what++) {
            int w = what;
            not("52: count(" + w + ")", much, x -> x.count(w), want[w]);
            answers("52: of a new object", NOBODY, x -> x.count(w), 0);
        }
        Scene full = but(BARE, x -> {
            x.guardian(0);
            for (int i = 0; i < 3; i++) {
                x.ward(0, 0);
            }
            for (int i = 0; i < 12; i++) {
                x.order(0, 0, 0, 0, 1);
            }
            for (int i = 0; i < 40; i++) {
                x.receive(0, 0, 1, 0);
            }
            Checks.tape(x, new String(new char[200]).replace('\0', ' '));
            return 0;
        });
        int[] most = {200, 10, 4, 3, 40, 12};
        for (int what = 0; what < 6; what++) {
            int w = what;
            answers("52: full, " + w, full, x -> x.count(w), most[w]);
            answers("52: no more, " + w, but(full, x -> x.guardian(0), x -> x.ward(0, 0),
                    x -> x.order(0, 0, 0, 0, 1), x -> x.receive(0, 0, 1, 0),
                    x -> x.feed(1, 0, 0, 0, 0)), x -> x.count(w), most[w]);
        }
        answers("52: one less", but(full, x -> x.undo()), x -> x.count(1), 9);
        answers("52: one less", but(full, x -> x.undo()), x -> x.count(4), 39);
        not("52: nothing else", NOBODY, x -> x.count(6), NONE);
        answers("52: no such WARD", NOBODY, x -> x.due(0), HIDDEN);
    }
}
