import java.lang.reflect.InvocationTargetException;
import java.lang.reflect.Method;
import java.util.Arrays;
import java.util.HashMap;
import java.util.Map;
import java.util.NoSuchElementException;

/** Runs of calls, drawn by numbers that are always the same, on GuardRolls and PlainRolls. */
public final class ModelTest {
    private static final int RUNS = 300;
    private static final int CALLS = 505;
    private static final int TEXTS = 20000;

    // Each call with its arguments' sorts: w WARD, g GUARDIAN, d DAY, y YEAR, m MONTH, a amount,
    // c kind, v VOUCHER, b BOND, B BORN, n ENTRY, q what, k which, x any.
    private static final String[] ACTS = {
        "guardian b", "bond gb", "ward Bg", "change wdg", "change wdg", "receive wdac",
        "receive wdac", "receive wdac", "pay wdacv", "pay wdacv", "pay wdacv", "pay wdacv",
        "layOut wda", "callIn wda", "order wcdda", "order wcdda", "ratify n"};
    private static final String[] ASKS = {
        "money wd", "out wd", "idle wd", "charge wy", "commission wy", "allowance wcy", "entry nq",
        "payment nq", "account wyq", "month wmq", "extreme wyq", "mean w", "lasts wd", "whose wd",
        "bonded gdq", "liable gq", "dispute k", "holder v", "again k", "needed wx", "ranked dk",
        "missing k", "saved wda", "ofAge w", "due w", "wardOf wq", "written k", "status q",
        "most dq", "count q", "rule q"};
    private static final String[] RULE_WORDS = {"age", "small", "grace", "floor", "rate", "fee",
        "cover"};

    private final Checks checks = new Checks();
    private final Map<String, Method> ours = methodsOf(GuardRolls.class);
    private final Map<String, Method> plain = methodsOf(PlainRolls.class);
    private long seed = 1;
    private GuardRolls x;
    private PlainRolls p;
    private int run;
    private int lastDay;
    private int told;

    public static void main(String[] args) throws IllegalAccessException {
        ModelTest test = new ModelTest();
        test.texts();
        for (int run = 1; run <= RUNS; run++) {
            test.runOnce(run);
        }
        test.checks.end("ModelTest");
    }

    private static Map<String, Method> methodsOf(Class<?> of) {
        Map<String, Method> methods = new HashMap<>();
        for (Method m : of.getDeclaredMethods()) {
            if (java.lang.reflect.Modifier.isPublic(m.getModifiers())) {
                methods.put(m.getName(), m);
            }
        }
        return methods;
    }

    private int next(int below) {
        seed = seed * 6364136223846793005L + 1442695040888963407L;
        return (int) ((seed >>> 33) % below);
    }

    private boolean chance(int percent) {
        return next(100) < percent;
    }

    private static Object answer(Method m, Object on, Object[] args) throws IllegalAccessException {
        try {
            return m.invoke(on, args);
        } catch (InvocationTargetException e) {
            return e.getCause() instanceof NoSuchElementException ? "NoSuchElementException"
                    : e.getCause().toString();
        }
    }

    private Object ask(String name, int... numbers) throws IllegalAccessException {
        Object[] args = new Object[numbers.length];
        for (int i = 0; i < args.length; i++) {
            args[i] = numbers[i];
        }
        Object got = answer(ours.get(name), x, args);
        Object want = answer(plain.get(name), p, args);
        if (got.equals(want)) {
            checks.due(name, 0, 0);
        } else {
            checks.fail("run " + run + ": " + name + Arrays.toString(numbers) + " answered " + got
                    + ", due is " + want + ";");
        }
        return got;
    }

    private void feedBoth(String text) throws IllegalAccessException {
        for (int from = 0; from < text.length(); from += 20) {
            ask("feed", Checks.numbers(text, from));
        }
    }

    // ---- RULES

    private String blanks() {
        return chance(70) ? "" : "  ".substring(next(2));
    }

    private String number(int rule) {
        int least = PlainRolls.LEAST[rule];
        int greatest = PlainRolls.GREATEST[rule];
        int[] all = {least, greatest, least + next(greatest - least + 1), PlainRolls.USUAL[rule]};
        String text = "" + all[next(4)];
        return chance(10) ? "0" + text : text;
    }

    private String rulesText() {
        StringBuilder text = new StringBuilder(blanks());
        int lines = next(5) == 0 ? 7 : next(5);
        int first = next(7);
        int step = 1 + next(6);
        for (int i = 0; i < lines; i++) {
            int rule = (first + i * step) % 7;
            text.append(i > 0 ? ";" : "").append(blanks()).append(RULE_WORDS[rule]);
            text.append(chance(80) ? " " : blanks()).append(number(rule)).append(blanks());
        }
        return text.toString();
    }

    private String spoilt(String text) {
        StringBuilder s = new StringBuilder(text);
        int times = next(3);
        for (int i = 0; i < times; i++) {
            int at = next(s.length() + 1);
            String signs = "; 0129azefrg\nA\u00ff-";
            if (chance(50)) {
                s.insert(at, signs.charAt(next(signs.length())));
            } else if (at < s.length() && chance(50)) {
                s.deleteCharAt(at);
            } else if (chance(40)) {
                s.setLength(at);
            }
        }
        return s.toString();
    }

    private void texts() throws IllegalAccessException {
        for (int i = 0; i < TEXTS; i++) {
            if (i % 60 == 0) {
                x = new GuardRolls();
                p = new PlainRolls();
            }
            ask("end", 0);
            feedBoth(spoilt(rulesText()));
            ask("count", 0);
            ask("fault");
            ask("rules");
            ask("count", 0);
            ask("rule", next(8));
            ask("written", next(66) - 2);
        }
    }

    // ---- runs

    private int wild() {
        int[] all = {Integer.MIN_VALUE, Integer.MAX_VALUE, -1, -2, 4000, 1000, 100000, 1000000,
            HIDDEN_AND_MORE, 65536};
        return all[next(all.length)];
    }

    private static final int HIDDEN_AND_MORE = -1000000001;

    private int day() {
        int day = next(lastDay + 1);
        switch (next(6)) {
            case 0:
                return day / 360 * 360 + 359;
            case 1:
                return day / 360 * 360;
            case 2:
                return day / 30 * 30;
            case 3:
                return chance(20) ? 3600 : 3599 - next(3);
            default:
                return day;
        }
    }

    private int amount() {
        int[] all = {1, 40, 41, 100, 1000 + next(9000), next(100000), 99999, 100000, 0, 300,
            1000 + next(500), 2000};
        return all[next(all.length)];
    }

    private int draw(char sort) {
        if (chance(1)) {
            return wild();
        }
        switch (sort) {
            case 'w':
                return next(told + (chance(5) ? 2 : 1));
            case 'g':
                return next(chance(5) ? 4 : 3);
            case 'd':
                return day();
            case 'y':
                return next(chance(5) ? 11 : lastDay / 360 + 1);
            case 'm':
                return next(chance(5) ? 121 : lastDay / 30 + 1);
            case 'a':
                return amount();
            case 'c':
                return chance(3) ? next(6) - 1 : next(chance(60) ? 2 : 4);
            case 'v':
                return chance(30) ? 0 : chance(5) ? next(1001) : next(30);
            case 'b':
                return chance(50) ? next(3) * 5000 : next(1000100);
            case 'B':
                return chance(40) ? -9000 + next(3000) : -9005 + next(12610);
            case 'n':
                return next(42) - 1;
            case 'q':
                return next(10) - 1;
            case 'k':
                return next(chance(50) ? 4 : 70) - 1;
            default:
                return chance(10) ? 9999998 + next(3) : next(chance(50) ? 1000 : 200000);
        }
    }

    private Object call(String call) throws IllegalAccessException {
        int blank = call.indexOf(' ');
        String sorts = blank < 0 ? "" : call.substring(blank + 1);
        int[] args = new int[sorts.length()];
        for (int i = 0; i < args.length; i++) {
            args[i] = draw(sorts.charAt(i));
        }
        if (call.startsWith("order") && args[2] > args[3] && chance(90)) {
            int last = args[2];
            args[2] = args[3];
            args[3] = last;
        }
        return ask(blank < 0 ? call : call.substring(0, blank), args);
    }

    private void runOnce(int number) throws IllegalAccessException {
        run = number;
        x = new GuardRolls();
        p = new PlainRolls();
        lastDay = new int[] {359, 719, 1500, 3599}[next(4)];
        told = 1 + next(4);
        int closings = new int[] {0, 2, 5}[next(3)];
        int undoing = new int[] {0, 2, 6}[next(3)];
        int acting = 30 + next(30);
        feedBoth(rulesText());
        ask("rules");
        for (int i = 0; i <= told; i++) {
            call("guardian b");
            call("ward Bg");
        }
        for (int i = 20; i < CALLS; i++) {
            int percent = next(100);
            if (percent < closings) {
                call(chance(80) ? "close w" : "settle w");
            } else if (percent < closings + undoing) {
                call(chance(80) ? "undo" : chance(50) ? "image" : "back");
            } else if (percent < closings + undoing + acting) {
                call(ACTS[next(ACTS.length)]);
            } else {
                rare();
                call(ASKS[next(ASKS.length)]);
            }
        }
    }

    private void rare() throws IllegalAccessException {
        int which = next(600);
        if (which == 0) {
            call("bestDay wyaq");
        } else if (which == 1) {
            ask("rules");
        } else if (which < 5) {
            ask("end", chance(70) ? 0 : next(30) - 2);
        } else if (which < 12) {
            ask("feed", wild(), wild(), next(100000), 0, -5);
            ask("fault");
        }
    }
}
