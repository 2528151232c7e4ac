/** What tests by hand share: calls with the answers that are due, and texts told to an object. */
abstract class Checks {
    static final int NONE = -1;
    static final int VOID = Integer.MIN_VALUE;
    static final String ROW = "sound ba 10 50; sound da 30 50; sound ga 50 50; voice 30 5; face 25 5;";

    private static int passed = 0;
    private static int failed = 0;
    private static String sentence = "";

    /** What the next calls are to show. */
    static void shows(String what) {
        sentence = what;
    }

    static void due(String call, long got, long want) {
        if (got == want) {
            passed++;
        } else {
            failed++;
            System.out.println(sentence + ": " + call + " answered " + got + ", due is " + want);
        }
    }

    static void due(String call, boolean got, boolean want) {
        due(call, got ? 1 : 0, want ? 1 : 0);
    }

    static void tell(LipsVoice x, String text) {
        x.end(0);
        String padded = text + " ".repeat((20 - text.length() % 20) % 20);
        for (int k = 0; k < padded.length(); k += 20) {
            int[] n = new int[5];
            for (int j = 0; j < 20; j++) {
                n[j / 4] = n[j / 4] << 8 | padded.charAt(k + j) & 255;
            }
            x.feed(n[0], n[1], n[2], n[3], n[4]);
        }
        x.end(text.length());
    }

    static LipsVoice with(String text) {
        LipsVoice x = new LipsVoice();
        tell(x, text);
        due("scene() of " + text, x.scene() >= 2, true);
        return x;
    }

    static LipsVoice withRules(String scene, String rules) {
        LipsVoice x = with(scene);
        tell(x, rules);
        due("rules() of " + rules, x.rules() >= 1, true);
        return x;
    }

    static void faults(int what, String text, int want) {
        LipsVoice x = new LipsVoice();
        tell(x, text);
        due("fault(" + what + ") of [" + text + "]", x.fault(what), want);
        due("length after fault", x.count(7), text.length());
    }

    /** The fault stands where the sign | does. */
    static void faultAt(int what, String marked) {
        faults(what, marked.replace("|", ""), marked.indexOf('|'));
    }

    static void end(String test) {
        System.out.println(test + ": " + passed + " passed, " + failed + " failed");
        if (failed > 0) {
            System.exit(1);
        }
    }
}
