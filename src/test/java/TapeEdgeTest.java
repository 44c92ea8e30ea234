import java.util.Arrays;

/** The edges of promises 1 to 6 and 46: the TAPE, RULES as a TEXT, RULES WRITTEN. */
public final class TapeEdgeTest extends Edges {
    private static final String[] WORDS = {"age", "small", "grace", "floor", "rate", "fee",
            "cover"};
    private static final int[] LEAST = {18, 0, 0, 0, 0, 0, 1};
    private static final int[] GREATEST = {25, 999, 359, 9999, 200, 100, 4};
    private static final int[] USUAL = {21, 40, 90, 100, 50, 25, 2};
    private static final String USUAL_WRITTEN =
            "age 21;small 40;grace 90;floor 100;rate 50;fee 25;cover 2";
    private static final int[] WILD = {Integer.MIN_VALUE, -1000000000, -2, Integer.MAX_VALUE};

    public static void main(String[] args) {
        TapeEdgeTest test = new TapeEdgeTest();
        test.newObject();
        test.tape();
        test.text();
        test.newRules();
        test.written();
        test.lastCall();
        test.checks.end("TapeEdgeTest");
    }

    private void tape() {
        bytesOfNought();
        bytesInTheirOrder();
        bytesFrom1To255();
        roomForTwoHundred();
        refusedFeed();
        firstBytes();
        noSuchFirstBytes();
    }

    private void text() {
        emptyText();
        boundsOfNumbers();
        digitsOfNumbers();
        wordsThatAreNone();
        wordsTwice();
        linesInAnyOrder();
        blanks();
        otherBytes();
        tooEarly();
        firstOfSeveral();
        faultChangesNothing();
    }

    private void newRules() {
        linesThatAreRules();
        rulesWithAFault();
        allElseIsGone();
        ruleOfNoWhat();
    }

    private static GuardRolls with(String text) {
        GuardRolls x = new GuardRolls();
        Checks.tape(x, text);
        return x;
    }

    private static String times(String text, int times) {
        StringBuilder all = new StringBuilder();
        for (int i = 0; i < times; i++) {
            all.append(text);
        }
        return all.toString();
    }

    private static int feed(GuardRolls x, String text) {
        int[] n = Checks.numbers(text, 0);
        return x.feed(n[0], n[1], n[2], n[3], n[4]);
    }

    /** A text that is no empty one, all of it told, and with something in every room. */
    private static GuardRolls busy() {
        GuardRolls x = Checks.under("small 3;rate 9");
        x.guardian(5);
        x.guardian(6);
        x.ward(-9000, 1);
        x.receive(0, 0, 5000, 0);
        x.image();
        x.pay(0, 5, 70, 2, 3);
        x.ratify(1);
        x.order(0, 0, 0, 3599, 60);
        x.change(0, 100, 0);
        x.close(0);
        x.guardian(-1);
        Checks.tape(x, "fee 7 ;cover 4");
        return x;
    }

    // ---- 1: "RULES of an empty TEXT, nobody"

    private void newObject() {
        for (int i = 0; i < 7; i++) {
            due("1: rule(" + i + ")", new GuardRolls().rule(i), USUAL[i]);
        }
        checks.due("1: WRITTEN", Checks.written(new GuardRolls()).equals(USUAL_WRITTEN), true);
        for (int i = 0; i < 6; i++) {
            due("1: count(" + i + ")", new GuardRolls().count(i), 0);
        }
        for (int i = 0; i < 5; i++) {
            due("1: status(" + i + ")", new GuardRolls().status(i), 0);
        }
        due("1: no IMAGE", new GuardRolls().back(), NONE);
        due("1: no ACT", new GuardRolls().undo(), NONE);
        due("1: the TAPE is empty", new GuardRolls().rules(), 0);
        due("1: no WARD", new GuardRolls().money(0, 0), HIDDEN);
        due("1: no GUARDIAN", new GuardRolls().liable(0, 0), HIDDEN);
        due("1: first GUARDIAN", new GuardRolls().guardian(0), 0);
    }

    // ---- 2: "bytes of 0 are left out"

    private void bytesOfNought() {
        for (int at = 0; at < 20; at++) {
            GuardRolls x = with("age 2");
            due("2: one byte at " + at, feed(x, times("\0", at) + "1"), 6);
            due("2: none more", x.count(0), 6);
            due("2: it is the last", x.rules(), 1);
            due("2: rule", x.rule(0), 21);
            GuardRolls y = with("");
            due("2: nineteen but " + at, feed(y, times("9", at) + "\0" + times("9", 19 - at)), 19);
        }
        due("2: nothing but 0", new GuardRolls().feed(0, 0, 0, 0, 0), 0);
        due("2: nothing but 0 at 6", with("age 21").feed(0, 0, 0, 0, 0), 6);
    }

    // ---- 2: "of each number the highest first"

    private void bytesInTheirOrder() {
        GuardRolls x = new GuardRolls();
        due("2: twenty", x.feed(0x61676520, 0x32313b73, 0x6d616c6c, 0x20373b66, 0x65652031), 20);
        due("2: two more", feed(x, "7"), 21);
        due("2: three LINES", x.rules(), 3);
        due("2: age", x.rule(0), 21);
        due("2: small", x.rule(1), 7);
        due("2: fee", x.rule(5), 17);
    }

    private void bytesFrom1To255() {
        for (int one = 1; one < 256; one++) {
            GuardRolls x = new GuardRolls();
            due("2: byte " + one, x.feed(0, one << 24, 0, 0, 0), 1);
            due("2: byte " + one, x.feed(0, one << 16, 0, 0, 0), 2);
            due("2: byte " + one, x.feed(one << 8, 0, 0, 0, 0), 3);
            due("2: byte " + one, x.feed(0, 0, 0, 0, one), 4);
            due("4: byte " + one, x.fault(), one == ' ' ? NONE : 0);
        }
    }

    // ---- 2: "NONE: more than 200"

    private void roomForTwoHundred() {
        for (int more = 0; more <= 20; more++) {
            GuardRolls x = with(times(" ", 180 + more));
            due("2: " + more + " and 20", feed(x, times(" ", 20)), more == 0 ? 200 : NONE);
            due("2: count", x.count(0), more == 0 ? 200 : 180 + more);
            GuardRolls y = with(times(" ", 181));
            due("2: 181 and " + more, feed(y, times(" ", more)), more <= 19 ? 181 + more : NONE);
            GuardRolls z = with(times(" ", 200));
            due("2: 200 and " + more, feed(z, times(" ", more)), more == 0 ? 200 : NONE);
            due("2: count", z.count(0), 200);
            due("2: blanks alone", z.rules(), 0);
            due("2: room again", feed(z, times(" ", more)), more);
        }
        GuardRolls x = with(times(" ", 194) + "age 25");
        due("2: the 200th counts", x.rules(), 1);
        due("2: the 200th counts", x.rule(0), 25);
    }

    private void refusedFeed() {
        String text = times(" ", 185) + "age 2";
        for (int more = 11; more <= 20; more++) {
            GuardRolls x = with(text);
            due("2: too many", feed(x, times("5", more)), NONE);
            due("2: nothing came", x.count(0), 190);
            due("2: the TAPE is the same", x.fault(), 189);
            due("2: other bytes", feed(x, "0;small 10"), 200);
            due("2: no byte of the others", x.rules(), 2);
            due("2: age", x.rule(0), 20);
            due("2: small", x.rule(1), 10);
            for (int i = 0; i < 5; i++) {
                due("2: is no ACT", x.status(i), 0);
            }
        }
        Scene full = () -> {
            GuardRolls x = busy();
            Checks.tape(x, times(" ", 193) + "age 18;");
            x.end(199);
            return x;
        };
        not("2: too many", full, x -> x.feed(0, 0x37000000, 0, 0, 0x37), NONE);
        not("2: too many", full, x -> x.feed(-1, -1, -1, -1, -1), NONE);
    }

    // ---- 3: "The TAPE has its first n bytes alone. False: n"

    private void firstBytes() {
        String text = "age 19;rate 1234";
        int[] lines = {0, NONE, NONE, NONE, NONE, NONE, 1, NONE, NONE, NONE, NONE, NONE, NONE, 2, 2,
            2, NONE};
        for (int n = 0; n <= text.length(); n++) {
            GuardRolls x = with(text);
            checks.due("3: end(" + n + ")", x.end(n), true);
            due("3: count", x.count(0), n);
            due("3: RULES", x.rules(), lines[n]);
        }
        GuardRolls x = with(text);
        x.end(12);
        checks.due("3: what is gone doesn't come again", x.end(13), false);
        due("3: other bytes behind it", feed(x, "0;fee 9"), 19);
        due("3: other bytes behind it", x.rules(), 3);
        due("3: rate", x.rule(4), 0);
        GuardRolls full = with(times(" ", 200));
        checks.due("3: all 200", full.end(200), true);
        checks.due("3: 201", full.end(201), false);
        checks.due("3: 199", full.end(199), true);
        checks.due("3: 200 no more", full.end(200), false);
        checks.due("3: none", full.end(0), true);
        checks.due("3: none", full.end(0), true);
        checks.due("3: one", full.end(1), false);
    }

    private void noSuchFirstBytes() {
        Scene scene = TapeEdgeTest::busy;
        int[] not = {Integer.MIN_VALUE, -2, -1, 15, 16, 200, 201, Integer.MAX_VALUE};
        for (int n : not) {
            not("3: end(" + n + ")", scene, x -> x.end(n) ? 1 : 0, 0);
        }
        not("3: end(14) of 14", scene, x -> x.end(14) ? 1 : 0, 1);
        for (int n = 0; n < 14; n++) {
            int first = n;
            answers("3: end(" + n + ")", scene, x -> x.end(first) ? 1 : 0, 1);
        }
    }

    // ---- 4: FAULT

    private void faultOf(String text, int want) {
        GuardRolls x = with(text);
        String name = "'" + text + "'";
        due("4: fault of " + name, x.fault(), want);
        due("4: again", x.fault(), want);
        due("4: the TAPE stays " + name, x.count(0), text.length());
        due("5: RULES " + name, x.rules() == NONE ? 1 : 0, want == NONE ? 0 : 1);
    }

    /** The RULES of a TEXT without a FAULT: those that it doesn't tell are the usual ones. */
    private void rulesOf(String text, int lines, int... want) {
        faultOf(text, NONE);
        GuardRolls x = with(text);
        due("5: LINES of '" + text + "'", x.rules(), lines);
        for (int i = 0; i < 7; i++) {
            due("6: rule(" + i + ") of '" + text + "'", x.rule(i), want[i]);
        }
    }

    private void oneRule(String text, int which, int number) {
        int[] want = USUAL.clone();
        want[which] = number;
        rulesOf(text, 1, want);
    }

    /** "An empty TEXT (blanks alone) is one." */
    private void emptyText() {
        for (int blanks = 0; blanks <= 200; blanks += blanks == 2 ? 197 : 1) {
            rulesOf(times(" ", blanks), 0, USUAL);
        }
        faultOf(";", 0);
        faultOf(" ;", 1);
        faultOf("\t", 0);
    }

    /** "age N (18 to 25 YEARS), small N (0 to 999), grace N (0 to 359 DAYS) .." */
    private void boundsOfNumbers() {
        for (int i = 0; i < 7; i++) {
            int first = WORDS[i].length() + 1;
            int[] in = {LEAST[i], LEAST[i] + 1, GREATEST[i] - 1, GREATEST[i]};
            for (int number : in) {
                oneRule(WORDS[i] + " " + number, i, number);
                oneRule(WORDS[i] + number, i, number);
                oneRule(WORDS[i] + " " + times("0", 4 - ("" + number).length()) + number, i,
                        number);
            }
            faultOf(WORDS[i] + " " + (GREATEST[i] + 1), first);
            faultOf(WORDS[i] + (GREATEST[i] + 1), first - 1);
            faultOf(WORDS[i] + " 99999", first);
            faultOf(WORDS[i] + " -1", first);
            if (LEAST[i] > 0) {
                faultOf(WORDS[i] + " " + (LEAST[i] - 1), first);
                faultOf(WORDS[i] + " 0000", first);
            }
            if (i != 3) {
                faultOf(WORDS[i] + " 9999", first);
            }
        }
    }

    /** "NUMBERS 1 to 4 digits" */
    private void digitsOfNumbers() {
        faultOf("small ", 6);
        oneRule("small 7", 1, 7);
        oneRule("small 07", 1, 7);
        oneRule("small 007", 1, 7);
        oneRule("small 0007", 1, 7);
        faultOf("small 00007", 6);
        faultOf("small 000007", 6);
        faultOf("small 00000", 6);
        faultOf("small" + times("0", 195), 5);
        faultOf("small 2147483648", 6);
        faultOf("small 4294967297", 6);
        faultOf("small 1 2", 8);
        faultOf("small 000 7", 10);
        faultOf("small +7", 6);
        faultOf("small 7.", 7);
    }

    /** "Words (small letters) go as long as they can", "a word that is none" */
    private void wordsThatAreNone() {
        for (int i = 0; i < 7; i++) {
            String word = WORDS[i];
            faultOf(word.substring(0, word.length() - 1) + " 18", 0);
            faultOf(word + "s 18", 0);
            faultOf(word + word + " 18", 0);
            faultOf(word.substring(1) + " 18", 0);
            faultOf("  " + word.substring(0, 1).toUpperCase() + word.substring(1) + " 18", 2);
            faultOf(word.substring(0, 2), 0);
            faultOf("a" + word, 0);
            faultOf(word + "z 18", 0);
            for (int at = 0; at < word.length(); at++) {
                char other = word.charAt(at) == 'z' ? 'a' : (char) (word.charAt(at) + 1);
                faultOf(word.substring(0, at) + other + word.substring(at + 1) + " 18", 0);
            }
        }
        faultOf("ag e 18", 0);
        faultOf("smallgrace 5", 0);
        faultOf("age 18;x", 7);
        faultOf("age 18; bond 7", 8);
        faultOf("18", 0);
        faultOf("; age 18", 0);
        faultOf("age 18;; fee 1", 7);
        faultOf("age 18; 18", 8);
    }

    /** "each once at most", "that was there" */
    private void wordsTwice() {
        for (int i = 0; i < 7; i++) {
            String line = WORDS[i] + " " + LEAST[i];
            faultOf(line + ";" + line, line.length() + 1);
            faultOf(line + " ; " + WORDS[i], line.length() + 3);
            faultOf(line + ";" + WORDS[i] + " 99999", line.length() + 1);
            String other = WORDS[(i + 1) % 7] + " " + GREATEST[(i + 1) % 7];
            faultOf(line + ";" + other + ";" + line, line.length() + other.length() + 2);
        }
    }

    /** "LINES with ; between, each once at most, in any order" */
    private void linesInAnyOrder() {
        for (int first = 0; first < 7; first++) {
            StringBuilder up = new StringBuilder();
            StringBuilder down = new StringBuilder();
            int[] least = USUAL.clone();
            int[] greatest = USUAL.clone();
            for (int i = 0; i < 7; i++) {
                int which = (first + i) % 7;
                up.append(i == 0 ? "" : ";").append(WORDS[which]).append(' ').append(LEAST[which]);
                least[which] = LEAST[which];
                rulesOf(up.toString(), i + 1, least);
                int other = (first + 7 - i) % 7;
                down.append(i == 0 ? "" : " ;").append(WORDS[other]).append(GREATEST[other]);
                greatest[other] = GREATEST[other];
                rulesOf(down.toString(), i + 1, greatest);
            }
            faultOf(up + ";", up.length() + 1);
            faultOf(up + " ; ", up.length() + 3);
            faultOf(up + ";" + WORDS[first] + " 18", up.length() + 1);
            faultOf(up + ";ages", up.length() + 1);
            faultOf(up + "x", up.length());
            faultOf(down + ";;", down.length() + 1);
        }
    }

    /** "blanks (32) may stand ahead of and behind all" */
    private void blanks() {
        String[] parts = {"age", "20", ";", "small", "5"};
        int[] want = USUAL.clone();
        want[0] = 20;
        want[1] = 5;
        for (int where = 0; where <= parts.length; where++) {
            for (int many = 0; many < 3; many++) {
                StringBuilder text = new StringBuilder();
                for (int i = 0; i < parts.length; i++) {
                    text.append(i == where ? times(" ", many) : "").append(parts[i]);
                }
                text.append(where == parts.length ? times(" ", many) : "");
                rulesOf(text.toString(), 2, want);
            }
        }
        rulesOf("  age  20  ;  small  5  ", 2, want);
        rulesOf(times(" ", 50) + "age" + times(" ", 50) + "20 ;small" + times(" ", 83) + "5", 2,
                want);
        faultOf("a ge 20", 0);
        faultOf("age 18 0", 7);
    }

    /** "another byte": the neighbours of blanks, letters, digits and ; */
    private void otherBytes() {
        int[] not = {1, 9, 10, 13, 31, 33, 44, 45, 47, 58, 60, 64, 65, 90, 96, 123, 127, 128, 160,
            178, 255};
        for (int one : not) {
            String other = "" + (char) one;
            faultOf(other, 0);
            faultOf(other + "age 20", 0);
            faultOf("ag" + other + "e 20", 0);
            faultOf("age" + other + "20", 3);
            faultOf("age " + other + "20", 4);
            faultOf("age 2" + other, 4);
            faultOf("age 20" + other, 6);
            faultOf("age 20 " + other + "small 5", 7);
            faultOf("age 20;" + other + "small 5", 7);
            faultOf("age 20;small" + other + "5", 12);
            faultOf("age 20;small 5 " + other, 15);
        }
        faultOf("age 20 small 5", 7);
        faultOf("age 20small 5", 6);
        faultOf("age;20", 3);
        faultOf("age ;", 4);
        faultOf("age age", 4);
        oneRule("fee 0", 5, 0);
        oneRule("fee 9", 5, 9);
    }

    /** "the length, if the TEXT ends too early" */
    private void tooEarly() {
        String text = "  age  20  ;  small  5  ";
        int[] want = {NONE, NONE, NONE, 2, 2, 5, 6, 7, 7, NONE, NONE, NONE, 12, 13, 14, 14, 14, 14,
            14, 19, 20, 21, NONE, NONE, NONE};
        due("4: as many", want.length, text.length() + 1);
        for (int n = 0; n <= text.length(); n++) {
            faultOf(text.substring(0, n), want[n]);
        }
        faultOf("age", 3);
        faultOf("age    ", 7);
        faultOf("age 18;", 7);
        faultOf("age 18;   ", 10);
        faultOf("age 18;fee", 10);
        faultOf(times(" ", 197) + "age", 200);
        faultOf(times(" ", 193) + "age 18;", 200);
        faultOf(times(" ", 194) + "age 18", NONE);
    }

    /** "where the first part begins that can't stand there" */
    private void firstOfSeveral() {
        faultOf("age 17;x;;", 4);
        faultOf("x 17", 0);
        faultOf("age 18 18;x", 7);
        faultOf("small 1000;small 1", 6);
        faultOf("small 1;small 1000", 8);
        faultOf("cover 5;", 6);
        faultOf("cover 0 0", 6);
        faultOf("fee 101x", 4);
        faultOf("fee 00101", 4);
    }

    private void faultChangesNothing() {
        Scene scene = TapeEdgeTest::busy;
        not("4: no FAULT", scene, x -> x.fault(), NONE);
        Scene faulty = () -> {
            GuardRolls x = busy();
            feed(x, "4;");
            return x;
        };
        not("4: a FAULT", faulty, x -> x.fault(), 13);
    }

    // ---- 5: rules

    /** "The TAPE (empty then) is the RULES: how many LINES." */
    private void linesThatAreRules() {
        GuardRolls x = with("age 18;fee 3");
        due("5: two", x.rules(), 2);
        due("5: the TAPE is empty", x.count(0), 0);
        checks.due("5: the TAPE is empty", x.end(1), false);
        due("5: fed anew", feed(x, "fee 4"), 5);
        due("5: one", x.rules(), 1);
        due("5: not of the RULES ahead", x.rule(0), 21);
        due("5: fee", x.rule(5), 4);
        due("5: none", x.rules(), 0);
        checks.due("5: all usual", Checks.written(x).equals(USUAL_WRITTEN), true);
    }

    /** "NONE: a FAULT (all stays, the TAPE, too)" */
    private void rulesWithAFault() {
        String[] bad = {"age 17", "fee 7;cover 5", "age", "age 18;", ";", "age 18 ;x", "\u00ff"};
        int[] places = {4, 12, 3, 7, 0, 8, 0};
        for (int i = 0; i < bad.length; i++) {
            String text = bad[i];
            int place = places[i];
            Scene scene = () -> {
                GuardRolls x = busy();
                Checks.tape(x, text);
                return x;
            };
            not("5: '" + text + "'", scene, x -> x.rules(), NONE);
            answers("5: '" + text + "' stays", scene, x -> x.rules() + x.fault(),
                    NONE + place);
        }
    }

    /** "RULES told anew: all else is gone (IMAGE, what can be UNDONE, too) but STATUS." */
    private void allElseIsGone() {
        String[] texts = {"", "   ", "small 3;rate 9", "age 18"};
        for (String text : texts) {
            GuardRolls x = busy();
            Checks.tape(x, text);
            due("5: LINES of '" + text + "'", x.rules(), text.indexOf(';') > 0 ? 2 :
                    text.isBlank() ? 0 : 1);
            for (int what = 0; what < 6; what++) {
                due("5: count(" + what + ")", x.count(what), 0);
            }
            due("5: the IMAGE", x.back(), NONE);
            due("5: what can be UNDONE", x.undo(), NONE);
            due("5: STATUS 1 stays", x.status(1), 1);
            due("5: no GUARDIAN", x.ward(0, 0), NONE);
            due("5: the first", x.guardian(8), 0);
            due("5: no WARD", x.whose(0, 0), NONE);
            due("5: the first", x.ward(7, 0), 0);
            for (int what = 1; what < 4; what++) {
                due("5: wardOf(0, " + what + ")", x.wardOf(0, what), 0);
            }
            due("5: no MONEY", x.money(0, 3599), 0);
            due("5: no ORDER", x.allowance(0, 0, 5), 0);
            due("5: the first VOUCHER", x.pay(0, 5, 999, 2, 3), 0);
            due("5: is GOOD", x.payment(0, 2), 1);
            due("5: not RATIFIED", x.payment(0, 4), 0);
            due("5: the second", x.pay(0, 5, 999, 2, 3), 1);
            due("5: not RATIFIED", x.payment(1, 4), 0);
            due("5: not ALLOWED", x.payment(1, 0), 0);
            due("5: no CHANGE", x.change(0, 100, 0), NONE);
        }
    }

    // ---- 6: "NONE: no such what"

    private void ruleOfNoWhat() {
        Scene scene = () -> {
            GuardRolls x = busy();
            x.rules();
            return x;
        };
        int[] want = {21, 40, 90, 100, 50, 7, 4};
        told("6: rule", scene, 0, 6, what -> x -> x.rule(what), what -> want[what], NONE);
        for (int what = 0; what < 7; what++) {
            int one = what;
            not("6: rule(" + what + ")", scene, x -> x.rule(one), want[what]);
        }
    }

    // ---- 46: "The k-th byte of the RULES WRITTEN (k NONE: how many). NONE: no such one."

    private void written() {
        String[] texts = {"cover 1;fee 0;rate 0;floor 0;grace 0;small 0", "",
            "cover4;fee 100;rate 200;floor 9999;grace 359;small 999;age25"};
        String[] want = {"age 21;small 0;grace 0;floor 0;rate 0;fee 0;cover 1", USUAL_WRITTEN,
            "age 25;small 999;grace 359;floor 9999;rate 200;fee 100;cover 4"};
        for (int i = 0; i < texts.length; i++) {
            String rules = texts[i];
            String all = want[i];
            Scene scene = () -> Checks.under(rules);
            answers("46: how many", scene, x -> x.written(NONE), all.length());
            for (int k = 0; k < all.length(); k++) {
                int at = k;
                answers("46: written(" + k + ")", scene, x -> x.written(at), all.charAt(k));
            }
            not("46: behind", scene, x -> x.written(all.length()), NONE);
            not("46: far behind", scene, x -> x.written(all.length() + 1), NONE);
            for (int wild : WILD) {
                not("46: written(" + wild + ")", scene, x -> x.written(wild), NONE);
            }
            rulesOf(all, 7, rulesIn(all));
        }
    }

    private static int[] rulesIn(String written) {
        return Arrays.stream(written.split(";"))
                .mapToInt(line -> Integer.parseInt(line.split(" ")[1])).toArray();
    }

    // ---- "An object is used for at most 512 calls": the 512th is still as promised

    private void lastCall() {
        GuardRolls x = new GuardRolls();
        for (int call = 1; call <= 500; call++) {
            due("call " + call, x.guardian(-1), NONE);
        }
        due("call 501", x.status(1), 500);
        due("call 502", x.guardian(9), 0);
        due("call 503", x.ward(0, 0), 0);
        due("call 504", x.receive(0, 3599, 5, 0), 0);
        for (int call = 505; call < 511; call++) {
            due("call " + call, x.money(0, 3599), 5);
        }
        due("call 511", x.receive(0, 3599, 6, 0), 1);
        due("call 512", x.money(0, 3599), 11);
    }
}
