/** Counts answers that are not the ones that are due, and prints each. */
final class Checks {
    private int asked = 0;
    private int wrong = 0;

    void due(String call, long got, long want) {
        asked++;
        if (got != want) {
            wrong++;
            if (wrong <= 50) {
                System.out.println(call + " answered " + got + ", due is " + want);
            }
        }
    }

    void due(String call, boolean got, boolean want) {
        due(call, got ? 1 : 0, want ? 1 : 0);
    }

    void fail(String what) {
        due(what, 1, 0);
    }

    /** Ends the test with exit code 1 if an answer was wrong. */
    void end(String test) {
        System.out.println(test + ": " + asked + " answers, " + wrong + " not as due");
        if (wrong != 0) {
            System.exit(1);
        }
    }

    /** Five numbers for feed(): up to twenty bytes of a text from a place on. */
    static int[] numbers(String text, int from) {
        int[] numbers = new int[5];
        for (int i = 0; i < 20; i++) {
            int one = from + i < text.length() ? text.charAt(from + i) : 0;
            numbers[i / 4] = numbers[i / 4] << 8 | one;
        }
        return numbers;
    }

    /** Puts a text on the TAPE instead of what it had. */
    static void tape(GuardRolls x, String text) {
        x.end(0);
        for (int from = 0; from < text.length(); from += 20) {
            int[] n = numbers(text, from);
            x.feed(n[0], n[1], n[2], n[3], n[4]);
        }
    }

    /** A new object under RULES. */
    static GuardRolls under(String rules) {
        GuardRolls x = new GuardRolls();
        tape(x, rules);
        if (x.rules() < 0) {
            throw new IllegalStateException("no RULES: " + rules);
        }
        return x;
    }

    static String written(GuardRolls x) {
        StringBuilder text = new StringBuilder();
        for (int k = 0; k < x.written(-1); k++) {
            text.append((char) x.written(k));
        }
        return text.toString();
    }
}
