import java.util.ArrayList;
import java.util.List;
import java.util.NoSuchElementException;
import java.util.function.IntFunction;
import java.util.function.IntUnaryOperator;
import java.util.function.Supplier;
import java.util.function.ToIntFunction;

/**
 * Asks at the edges of what the document bounds: each call on a new object, what it answers, which
 * STATUS it counts in, and, if it is refused, that it leaves all as it was.
 */
abstract class Edges {
    /** A call of the face on an object. */
    interface Call extends ToIntFunction<GuardRolls> {
    }

    /** A state: makes a new object and tells it all that stands there. */
    interface Scene extends Supplier<GuardRolls> {
    }

    static final int NONE = GuardRolls.NONE;
    static final int HIDDEN = GuardRolls.HIDDEN;
    static final int UNKNOWN = 0;
    static final int BOUNDS = 1;
    static final int SHUT = 2;
    static final int CANNOT = 3;
    static final int FULL = 4;
    /** No STATUS at all. */
    static final int NOTHING = -1;
    static final int THROWN = -999999999;

    private static final int REASONS = 5;
    // The scenes take some hundred calls, and an object answers 512 in all.
    private static final int QUESTIONS_AN_OBJECT = 350;
    private static final String[] ENDINGS = {"", " when all is UNDONE", " when the IMAGE is BACK",
        " when the TAPE is the RULES"};

    private static final List<String> NAMES = new ArrayList<>();
    private static final List<Call> QUESTIONS = new ArrayList<>();

    static {
        askOfRules();
        askOfEntries();
        askOfWards();
        askOfGuardians();
    }

    /** No RULES, nobody. */
    static final Scene NOBODY = GuardRolls::new;

    final Checks checks = new Checks();
    private Scene lastScene = null;
    private int[][] lastAnswers = null;

    /** A state, and then these calls. */
    static Scene but(Scene scene, Call... calls) {
        return () -> {
            GuardRolls x = scene.get();
            for (Call call : calls) {
                call.applyAsInt(x);
            }
            return x;
        };
    }

    /** The answer that stands for a place. */
    static int at(int asked, int[] places, int[] answers) {
        for (int i = 0; i < places.length; i++) {
            if (places[i] == asked) {
                return answers[i];
            }
        }
        throw new IllegalStateException("no answer for " + asked);
    }

    // ---- what is asked to see a whole state

    private static void question(String name, Call call) {
        NAMES.add(name);
        QUESTIONS.add(call);
    }

    private static void askOfRules() {
        question("fault()", x -> x.fault());
        question("written(-1)", x -> x.written(-1));
        for (int i = 0; i < 7; i++) {
            int what = i;
            question("rule(" + i + ")", x -> x.rule(what));
            question("count(" + i + ")", x -> x.count(what));
        }
    }

    private static void askOfEntries() {
        for (int i = 0; i < 40; i++) {
            int n = i;
            for (int w = 0; w < 6; w++) {
                int what = w;
                question("entry(" + n + ", " + w + ")", x -> entry(x, n, what));
                question("payment(" + n + ", " + w + ")", x -> x.payment(n, what));
            }
        }
        for (int i = -1; i < 6; i++) {
            int k = i;
            question("dispute(" + k + ")", x -> x.dispute(k));
            question("again(" + k + ")", x -> x.again(k));
            question("missing(" + k + ")", x -> x.missing(k));
            question("holder(" + k + ")", x -> x.holder(k));
        }
    }

    private static void askOfWards() {
        int[] days = {0, 1, 8, 9, 70, 80, 99, 100, 359, 360, 700, 719, 720, 2000, 3599};
        for (int i = 0; i < 4; i++) {
            int w = i;
            question("due(" + w + ")", x -> x.due(w));
            question("mean(" + w + ")", x -> x.mean(w));
            for (int j = 0; j < 4; j++) {
                int what = j;
                question("wardOf(" + w + ", " + what + ")", x -> x.wardOf(w, what));
            }
            for (int day : days) {
                question("money(" + w + ", " + day + ")", x -> x.money(w, day));
                question("out(" + w + ", " + day + ")", x -> x.out(w, day));
                question("whose(" + w + ", " + day + ")", x -> x.whose(w, day));
            }
            for (int j = 0; j < 10; j++) {
                int year = j;
                question("charge(" + w + ", " + year + ")", x -> x.charge(w, year));
                question("commission(" + w + ", " + year + ")", x -> x.commission(w, year));
                question("allowance(" + w + ", 0, " + year + ")", x -> x.allowance(w, 0, year));
                question("allowance(" + w + ", 1, " + year + ")", x -> x.allowance(w, 1, year));
            }
        }
    }

    private static void askOfGuardians() {
        for (int i = 0; i < 3; i++) {
            int g = i;
            for (int j = 0; j < 3; j++) {
                int what = j;
                question("bonded(" + g + ", 3599, " + what + ")", x -> x.bonded(g, 3599, what));
                question("liable(" + g + ", " + what + ")", x -> x.liable(g, what));
            }
        }
    }

    /** The answer of entry(), THROWN if it throws as the document says. */
    static int entry(GuardRolls x, int number, int what) {
        try {
            return x.entry(number, what);
        } catch (NoSuchElementException e) {
            return THROWN;
        }
    }

    /** What comes behind the call, so that what can be UNDONE and what is kept show too. */
    private static void finish(GuardRolls x, int ending) {
        if (ending == 1) {
            for (int i = x.count(1); i > 0; i--) {
                x.undo();
            }
        } else if (ending == 2) {
            x.back();
        } else if (ending == 3) {
            x.rules();
        }
    }

    private static int[][] answers(Scene scene, Call call) {
        int[][] answers = new int[ENDINGS.length][QUESTIONS.size()];
        for (int ending = 0; ending < ENDINGS.length; ending++) {
            GuardRolls x = null;
            for (int q = 0; q < QUESTIONS.size(); q++) {
                if (q % QUESTIONS_AN_OBJECT == 0) {
                    x = scene.get();
                    if (call != null) {
                        call.applyAsInt(x);
                    }
                    finish(x, ending);
                }
                answers[ending][q] = QUESTIONS.get(q).applyAsInt(x);
            }
        }
        return answers;
    }

    private static int[] statuses(GuardRolls x) {
        int[] statuses = new int[REASONS];
        for (int i = 0; i < REASONS; i++) {
            statuses[i] = x.status(i);
        }
        return statuses;
    }

    // ---- what is due

    void due(String name, long got, long want) {
        checks.due(name, got, want);
    }

    /** The call, on a new object, answers what is due and counts in no STATUS. */
    void answers(String name, Scene scene, Call call, int want) {
        countsIn(name, scene, call, want, NOTHING);
    }

    /** The ACT answers NONE, counts in that STATUS alone, and leaves all else as it was. */
    void refused(String name, Scene scene, Call call, int reason) {
        countsIn(name, scene, call, NONE, reason);
        leavesAll(name, scene, call);
    }

    /** The question has no answer but this one, counts in no STATUS, and leaves all as it was. */
    void not(String name, Scene scene, Call call, int want) {
        countsIn(name, scene, call, want, NOTHING);
        leavesAll(name, scene, call);
    }

    private void countsIn(String name, Scene scene, Call call, int want, int reason) {
        GuardRolls x = scene.get();
        int[] before = statuses(x);
        due(name, call.applyAsInt(x), want);
        int[] behind = statuses(x);
        for (int i = 0; i < REASONS; i++) {
            due(name + ", status(" + i + ")", behind[i], before[i] + (i == reason ? 1 : 0));
        }
    }

    void leavesAll(String name, Scene scene, Call call) {
        if (lastScene != scene) {
            lastScene = scene;
            lastAnswers = answers(scene, null);
        }
        int[][] got = answers(scene, call);
        for (int ending = 0; ending < ENDINGS.length; ending++) {
            for (int q = 0; q < got[ending].length; q++) {
                due(name + ", then " + NAMES.get(q) + ENDINGS[ending], got[ending][q],
                        lastAnswers[ending][q]);
            }
        }
    }

    /** Two states answer alike, but for STATUS and what can be UNDONE. */
    void sameNow(String name, Scene got, Scene want) {
        int[] gotten = answers(got, null)[0];
        int[] wanted = answers(want, null)[0];
        for (int q = 0; q < gotten.length; q++) {
            if (!NAMES.get(q).equals("count(1)")) {
                due(name + ", then " + NAMES.get(q), gotten[q], wanted[q]);
            }
        }
    }

    /** An argument of an ACT: the edges and their neighbours inside it answer what is due. */
    void bounds(String name, Scene scene, int least, int greatest, IntFunction<Call> call,
            IntUnaryOperator want, int reason) {
        for (int at : inside(least, greatest)) {
            answers(name + " " + at, scene, call.apply(at), want.applyAsInt(at));
        }
        for (int at : outside(least, greatest)) {
            refused(name + " " + at, scene, call.apply(at), reason);
        }
    }

    /** An argument of a question likewise: outside of it, there is one answer. */
    void told(String name, Scene scene, int least, int greatest, IntFunction<Call> call,
            IntUnaryOperator want, int untold) {
        for (int at : inside(least, greatest)) {
            answers(name + " " + at, scene, call.apply(at), want.applyAsInt(at));
        }
        for (int at : outside(least, greatest)) {
            not(name + " " + at, scene, call.apply(at), untold);
        }
    }

    private static int[] inside(int least, int greatest) {
        if (greatest - least < 3) {
            int[] all = new int[greatest - least + 1];
            for (int i = 0; i < all.length; i++) {
                all[i] = least + i;
            }
            return all;
        }
        return new int[] {least, least + 1, greatest - 1, greatest};
    }

    private static int[] outside(int least, int greatest) {
        return new int[] {Integer.MIN_VALUE, least - 1, greatest + 1, Integer.MAX_VALUE};
    }
}
