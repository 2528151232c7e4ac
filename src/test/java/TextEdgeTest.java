/** Terms 1 and 5, promises 2 to 7: each sentence on texts that names an edge, at its last place within and its first beyond. */
public final class TextEdgeTest extends Checks {
    private static final String SPANS = "voice 1 0;face 1 0;";
    private static final String TWO = "sound a 1 1;sound b 2 2;";
    private static final String WHOLE = TWO + SPANS;

    public static void main(String[] args) {
        bytes();
        ends();
        faultNumbers();
        tokens();
        anyOrder();
        names();
        places();
        mostSounds();
        spans();
        odds();
        hold();
        learn();
        toldAhead();
        firstFault();
        tooEarly();
        sceneTakesThePlace();
        lines();
        comparisons();
        numbersAndWords();
        brackets();
        rulesTooEarly();
        rulesTakeThePlace();
        end("TextEdgeTest");
    }

    private static String padded(String text, int length) {
        return text + " ".repeat(length - text.length());
    }

    private static int sounds(String text) {
        LipsVoice x = new LipsVoice();
        tell(x, text);
        return x.scene();
    }

    private static void stands(String text, int sounds) {
        faults(0, text, NONE);
        due("scene() of [" + text + "]", sounds(text), sounds);
    }

    private static void rulesStand(String text, int lines) {
        faults(1, text, NONE);
        LipsVoice x = new LipsVoice();
        tell(x, text);
        due("rules() of [" + text + "]", x.rules(), lines);
    }

    // ---- the text

    private static void bytes() {
        shows("Promise 2: bytes come behind those of the text: how many there are");
        LipsVoice x = new LipsVoice();
        for (int k = 1; k <= 24; k++) {
            due("feed " + k, x.feed(0x20202020, 0x20202020, 0x20202020, 0x20202020, 0x20202020), 20 * k);
        }
        shows("Promise 2: 500 may be");
        due("end(480)", x.end(480), true);
        due("feed at 480", x.feed(0x20202020, 0x20202020, 0x20202020, 0x20202020, 0x20202023), 500);
        due("the last byte is the 500th", x.fault(0), 499);
        shows("Promise 2: NONE if there would be more than 500");
        due("feed at 500", x.feed(0, 0, 0, 0, 0), NONE);
        due("count(7)", x.count(7), 500);
        due("the text stays", x.fault(0), 499);
        due("end(481)", x.end(481), true);
        due("feed at 481", x.feed(0, 0, 0, 0, 0), NONE);
        due("count(7)", x.count(7), 481);
        due("none of its bytes came", x.fault(0), 481);
        shows("Promise 2: of each number the highest first, whatever its sign");
        LipsVoice y = new LipsVoice();
        due("feed", y.feed(0x6100ff80, 0xffffffff, Integer.MIN_VALUE, -1, 0), 20);
        due("end(1)", y.end(1), true);
        due("a word alone", y.fault(0), 0);
        int[][] firstBytes = {{0x20000000, 1}, {0x20200000, 2}, {0x20202000, 3}, {0x20202020, 4}, {0x0a20200a, 4}, {0x200a0d20, 2}};
        for (int[] one : firstBytes) {
            LipsVoice z = new LipsVoice();
            z.feed(one[0], 0, 0, 0, 0);
            due("first byte that isn't blank in " + one[0], z.fault(0), one[1]);
        }
        shows("Promise 2: every byte from 0 to 255 but 32 and 10 is a token's first, or begins none: a fault at its place");
        for (int b = 0; b < 256; b++) {
            LipsVoice z = new LipsVoice();
            z.feed(b << 24 | 0x202020, 0x20202020, 0x20202020, 0x20202020, 0x20202020);
            due("byte " + b, z.fault(0), b == 32 || b == 10 ? 20 : 0);
            due("byte " + b + " in rules", z.fault(1), b == 32 || b == 10 ? 20 : 0);
        }
        shows("Terms 1: a text of at most 500 bytes may be a SCENE whole");
        LipsVoice whole = new LipsVoice();
        tell(whole, padded(TWO + "voice 1 0;", 490) + "face 1 00;");
        due("count(7)", whole.count(7), 500);
        due("scene()", whole.scene(), 2);
    }

    private static void ends() {
        LipsVoice x = new LipsVoice();
        shows("Promise 3: the text may be empty");
        due("end(0)", x.end(0), true);
        due("end(1)", x.end(1), false);
        shows("Promise 3: all its bytes may stay, none more can");
        x.feed(0x61616161, 0, 0, 0, 0);
        due("end(20)", x.end(20), true);
        due("end(21)", x.end(21), false);
        due("end at the greatest", x.end(Integer.MAX_VALUE), false);
        due("count(7)", x.count(7), 20);
        shows("Promise 3: false if n is below 0");
        due("end(-1)", x.end(-1), false);
        due("end at the least", x.end(Integer.MIN_VALUE), false);
        due("count(7)", x.count(7), 20);
        shows("Promise 3: the text has its first n bytes alone");
        due("end(4)", x.end(4), true);
        due("count(7)", x.count(7), 4);
        due("end(5)", x.end(5), false);
        due("bytes behind them come anew", x.feed(0x20202020, 0x20202020, 0x20202020, 0x20202020, 0x20202020), 24);
        due("end(0)", x.end(0), true);
        due("fault(0)", x.fault(0), 0);
        due("count(7)", x.count(7), 0);
    }

    private static void faultNumbers() {
        shows("Promise 4: VOID for others");
        LipsVoice x = new LipsVoice();
        tell(x, WHOLE);
        due("fault(0)", x.fault(0), NONE);
        due("fault(1)", x.fault(1), 0);
        for (int what : new int[] {-1, 2, 3, Integer.MIN_VALUE, Integer.MAX_VALUE}) {
            due("fault(" + what + ")", x.fault(what), VOID);
        }
    }

    private static void tokens() {
        shows("Terms 1: words and numbers as long as can be");
        stands("sound a1 1;sound b2 2;voice1 0;face1 0;", 2);
        faultAt(0, "|sounda 1 1;");
        faultAt(0, "sound a 11|;");
        faultAt(0, "sound a 1 1; |soundb");
        shows("Terms 1: any blanks (32) and line ends (10) between");
        stands("\n\n  sound\na\n1\n\n1 ; \nsound  b 2 2\n;voice 1 0;face 1 0;\n ", 2);
        stands("sound a 1 1;sound b 2 2;voice 1 0;face 1 0;", 2);
        for (char other : new char[] {9, 13, 11, 12, 0, 31, 33, 127, 160, 255}) {
            faultAt(0, "sound a 1 1;|" + other + "sound b 2 2;");
        }
        shows("Terms 1: words of small letters");
        for (char other : new char[] {'A', 'Z', '`', '{', '_', 228, '@'}) {
            faultAt(0, "sound |" + other + " 1 1;");
            faultAt(0, "sound a|" + other + " 1 1;");
        }
        stands("sound az 1 1;sound za 2 2;" + SPANS, 2);
        shows("Terms 1: numbers of digits");
        stands("sound a 90 9;sound b 0 99;" + SPANS, 2);
        faultAt(0, "sound a 9|/ 1;");
        faultAt(0, "sound a 9|: 1;");
        faultAt(0, "sound a |-1 1;");
        faultAt(0, "sound a |+1 1;");
        faultAt(0, "sound a 1|.5 1;");
        shows("Terms 1: a number is what its digits say");
        stands("sound a 001 1;sound b 0000000000000000000000000099 2;" + SPANS, 2);
    }

    private static void anyOrder() {
        shows("Terms 1: any number of, in any order");
        stands("face 1 0;odds 0 1;sound a 1 1;learn a a a;hold a 9;voice 1 0;sound b 2 2;", 2);
        stands("odds 16 99;voice 60 9;face 60 9;sound b 2 2;sound a 1 1;", 2);
        shows("Terms 1: none of them at all is too early an end");
        faults(0, "", 0);
    }

    private static void names() {
        shows("Terms 1: a NAME is a word of at most 8 letters");
        stands("sound abcdefgh 1 1;sound abcdefg 2 2;" + SPANS, 2);
        faultAt(0, "sound |abcdefghi 1 1;");
        faultAt(0, "sound |abcdefghijklmnopqrstuvwxyz 1 1;");
        faultAt(0, "sound abcdefgh 1 1;hold |abcdefghi 1;");
        faultAt(0, "sound abcdefgh 1 1;hold |babcdefgh 1;");
        faultAt(0, "sound abcdefgh 1 1;learn abcdefgh abcdefgh |xabcdefgh;");
        stands("sound a 1 1;sound z 2 2;hold a 1;hold z 1;" + SPANS, 2);
        shows("Terms 1: but: sound voice face odds hold learn");
        for (String key : new String[] {"sound", "voice", "face", "odds", "hold", "learn"}) {
            faultAt(0, "sound |" + key + " 1 1;");
            faultAt(0, "sound a 1 1;hold |" + key + " 1;");
            faultAt(0, "sound a 1 1;learn |" + key + " a a;");
            faultAt(0, "sound a 1 1;learn a |" + key + " a;");
            faultAt(0, "sound a 1 1;learn a a |" + key + ";");
            stands("sound " + key + "s 1 1;sound " + key.substring(1) + " 2 2;" + SPANS, 2);
        }
        for (String other : new String[] {"call", "if", "and", "fused", "third", "noticed", "noise", "dark", "late"}) {
            stands("sound " + other + " 1 1;sound b 2 2;" + SPANS, 2);
        }
        shows("Terms 1: no two with like NAMES");
        faultAt(0, "sound a 1 1;sound |a 2 2;");
        faultAt(0, "sound a 1 1;sound b 3 3;sound |b 2 2;");
        stands("sound a 1 1;sound aa 2 2;sound aaa 3 3;" + SPANS, 3);
        faultAt(0, "sound abcdefgh 1 1;sound bcdefgh 2 2;sound |abcdefgh 3 3;");
    }

    private static void places() {
        shows("Terms 1: X, Y 0 .. 99");
        stands("sound a 0 99;sound b 99 0;" + SPANS, 2);
        faultAt(0, "sound a |100 0;");
        faultAt(0, "sound a 0 |100;");
        for (String great : new String[] {"999", "4294967296", "18446744073709551616", "99999999999999999999999999999999"}) {
            faultAt(0, "sound a |" + great + " 0;");
            faultAt(0, "sound a 0 |" + great + ";");
        }
        shows("Terms 1: no two at one place: Y is the fault");
        faultAt(0, "sound a 7 8;sound b 7 |8;");
        faultAt(0, "sound a 7 8;sound b 8 7;sound c 8 |7;");
        stands("sound a 7 8;sound b 8 7;sound c 7 7;sound d 8 8;" + SPANS, 4);
        shows("Terms 1: a Y that can't be is a fault though there is no SOUND at it");
        faultAt(0, "sound a 7 8;sound b 7 |108;");
    }

    private static void mostSounds() {
        shows("Terms 1: at most 9 SOUNDS");
        StringBuilder nine = new StringBuilder(SPANS);
        for (int k = 0; k < 9; k++) {
            nine.append("sound ").append((char) ('r' + k)).append(' ').append(90 - k).append(' ').append(k).append(';');
        }
        stands(nine.toString(), 9);
        shows("Terms 1: a 10th sound at its first word");
        faultAt(0, nine + "|sound a 0 0;");
        faultAt(0, nine + "|sound");
        shows("Terms 1: numbers as they come");
        LipsVoice x = with(nine.toString());
        for (int k = 0; k < 9; k++) {
            due("sound(" + k + ", 0)", x.sound(k, 0), 90 - k);
            due("sound(" + k + ", 1)", x.sound(k, 1), k);
        }
        shows("Promise 7: NONE for others, or if there is none such");
        due("sound(8, 2)", x.sound(8, 2), 1);
        due("sound(9, 0)", x.sound(9, 0), NONE);
        due("sound(-1, 0)", x.sound(-1, 0), NONE);
        due("sound(0, 3)", x.sound(0, 3), NONE);
        due("sound(0, -1)", x.sound(0, -1), NONE);
        due("sound at the least", x.sound(Integer.MIN_VALUE, Integer.MIN_VALUE), NONE);
        due("sound at the greatest", x.sound(Integer.MAX_VALUE, Integer.MAX_VALUE), NONE);
        due("sound without a scene", new LipsVoice().sound(0, 0), NONE);
    }

    private static void spans() {
        for (String key : new String[] {"voice", "face"}) {
            String other = key.equals("voice") ? "face 1 0;" : "voice 1 0;";
            shows("Terms 1: S 1 .. 60 of " + key);
            stands(TWO + other + key + " 1 0;", 2);
            stands(TWO + other + key + " 60 0;", 2);
            faultAt(0, key + " |0 0;");
            faultAt(0, key + " |61 0;");
            faultAt(0, key + " |;");
            faultAt(0, TWO + other + key + " |;");
            faultAt(0, TWO + other + key + " 1 |;");
            shows("Terms 1: G 0 .. 9 of " + key);
            stands(TWO + other + key + " 1 9;", 2);
            faultAt(0, key + " 1 |10;");
            faultAt(0, key + " 1 |;");
            faultAt(0, key + " 1 0 |0;");
            shows("Terms 1: each once: a second " + key + " at its first word");
            faultAt(0, key + " 1 0;|" + key + " 1 0;");
            faultAt(0, key + " 60 9;" + other + TWO + "|" + key + " 60 9;");
            shows("Terms 1: no " + key + ": the length");
            faults(0, TWO + other, (TWO + other).length());
        }
        shows("Terms 1: S and G are a voice's and a face's own");
        LipsVoice x = with("sound a 0 0;sound b 1 0;voice 60 9;face 2 1;");
        due("voice", x.weight(0, 1, 90, 0, 0), 60 + 81);
        due("face", x.weight(1, 1, 9, 0, 1), 2 + 9);
    }

    private static void odds() {
        shows("Terms 1: P 0 .. 16");
        due("P", with(WHOLE + "odds 0 1;").count(5), 0);
        due("P", with(WHOLE + "odds 16 1;").count(5), 16);
        faultAt(0, "odds |17 1;");
        faultAt(0, WHOLE + "odds |;");
        faultAt(0, WHOLE + "odds 1 |;");
        shows("Terms 1: W 1 .. 99");
        due("W", with(WHOLE + "odds 0 1;").count(6), 1);
        due("W", with(WHOLE + "odds 0 99;").count(6), 99);
        faultAt(0, "odds 16 |0;");
        faultAt(0, "odds 16 |100;");
        shows("Terms 1: once: second odds at their first word");
        faultAt(0, "odds 0 1;|odds 0 1;");
        faultAt(0, "odds 16 99;|odds 16 99;");
        shows("Terms 1: 16 and 99 without");
        due("P", with(WHOLE).count(5), 16);
        due("W", with(WHOLE).count(6), 99);
        shows("Terms 1: the odds of a SCENE ahead don't stay");
        LipsVoice x = with(WHOLE + "odds 3 4;");
        tell(x, WHOLE);
        due("scene()", x.scene(), 2);
        due("P", x.count(5), 16);
        due("W", x.count(6), 99);
        due("who(0, 2)", x.who(0, 2), 16);
        shows("Terms 1: a text alone has no odds once yet");
        tell(x, WHOLE + "odds 3 4;");
        due("fault(0)", x.fault(0), NONE);
        due("fault(0) again", x.fault(0), NONE);
        due("P stays", x.count(5), 16);
    }

    private static void hold() {
        shows("Terms 1: H 1 .. 9");
        due("H", with(WHOLE + "hold a 1;").sound(0, 2), 1);
        due("H", with(WHOLE + "hold b 9;").sound(1, 2), 9);
        faultAt(0, WHOLE + "hold a |0;");
        faultAt(0, WHOLE + "hold a |10;");
        shows("Terms 1: 1 without");
        due("H", with(WHOLE + "hold b 9;").sound(0, 2), 1);
        shows("Terms 1: of each SOUND once: the SOUND of a second hold");
        faultAt(0, WHOLE + "hold a 1;hold |a 1;");
        faultAt(0, WHOLE + "hold a 9;hold b 2;hold |a 9;");
        stands(WHOLE + "hold b 3;hold a 3;", 2);
        shows("Terms 1: a hold of a SCENE ahead doesn't stay");
        LipsVoice x = with(WHOLE + "hold a 5;");
        tell(x, WHOLE + "hold a 4;");
        due("fault(0)", x.fault(0), NONE);
        tell(x, WHOLE);
        due("scene()", x.scene(), 2);
        due("H", x.sound(0, 2), 1);
    }

    private static void learn() {
        String four = "sound a 1 1;sound b 1 2;sound c 1 3;sound d 1 4;" + SPANS;
        StringBuilder most = new StringBuilder(four);
        for (int k = 0; k < 12; k++) {
            most.append("learn ").append("abcd".charAt(k / 4)).append(' ').append("abcd".charAt(k % 4)).append(" a;");
        }
        shows("Terms 1: at most 12 of learn");
        stands(most.toString(), 4);
        due("count(1)", with(most.toString()).count(1), 12);
        shows("Terms 1: a 13th learn at its first word");
        faultAt(0, most + "|learn d d a;");
        faultAt(0, most + "|learn");
        shows("Terms 1: no couple of VOICE and FACE twice: the FACE's");
        faultAt(0, WHOLE + "learn a b a;learn a |b a;");
        faultAt(0, WHOLE + "learn a b a;learn a |b b;");
        faultAt(0, WHOLE + "learn b b a;learn a b b;learn b |b a;");
        stands(WHOLE + "learn a b a;learn b a a;learn a a b;learn b b a;", 2);
        shows("Terms 1: a text that is looked at again has told nothing yet");
        LipsVoice again = new LipsVoice();
        tell(again, most.toString());
        for (int k = 0; k < 3; k++) {
            due("fault(0)", again.fault(0), NONE);
        }
        due("scene()", again.scene(), 4);
        due("count(1)", again.count(1), 12);
        shows("Terms 1: a NAME that isn't told, at its own place");
        faultAt(0, WHOLE + "learn |c a a;");
        faultAt(0, WHOLE + "learn a |c a;");
        faultAt(0, WHOLE + "learn a a |c;");
        faultAt(0, WHOLE + "learn a a a |a;");
        shows("Terms 1: couples of a SCENE ahead don't stay");
        LipsVoice x = with(WHOLE + "learn a b a;learn b a a;");
        due("count(1)", x.count(1), 2);
        tell(x, WHOLE + "learn a b b;");
        due("scene()", x.scene(), 2);
        due("count(1)", x.count(1), 1);
        due("what is said", x.likely(5, 1, 0, 0), 1);
    }

    private static void toldAhead() {
        shows("Terms 1: hold and learn name SOUNDS told ahead");
        faultAt(0, "hold |a 1;sound a 1 1;");
        faultAt(0, "learn |a a a;sound a 1 1;");
        faultAt(0, "sound a 1 1;learn a |b a;sound b 2 2;");
        faultAt(0, "sound a 1 1;learn a a |b;sound b 2 2;");
        stands("sound a 1 1;hold a 2;learn a a a;sound b 2 2;" + SPANS, 2);
        shows("Terms 1: names told in another text, or in a SCENE, aren't told here");
        LipsVoice x = with(WHOLE);
        tell(x, "hold a 1;");
        due("fault(0)", x.fault(0), 5);
        tell(x, "sound c 3 3;hold b 1;");
        due("fault(0)", x.fault(0), 17);
    }

    private static void firstFault() {
        shows("Terms 1: the first TOKEN that can't stand there");
        faultAt(0, "|1");
        faultAt(0, "|;");
        faultAt(0, "|a");
        faultAt(0, "|call fused if 1 = 1;");
        faultAt(0, "sound |1 1 1;");
        faultAt(0, "sound a |b 1;");
        faultAt(0, "sound a 1 |b;");
        faultAt(0, "sound a 1 1 |1;");
        faultAt(0, "sound a 1 1;|;");
        faultAt(0, "voice |a 1;");
        faultAt(0, "odds 1 |a;");
        faultAt(0, "hold |1 1;");
        faultAt(0, WHOLE + "hold a |b;");
        faultAt(0, WHOLE + "hold a 1 |1;");
        faultAt(0, WHOLE + "|+");
        shows("Terms 1: a key word where another TOKEN is due begins nothing anew");
        String[] parts = {"sound a ", "sound a 1 ", "sound a 1 1 ", "voice ", "voice 1 ", "voice 1 0 ", "face ", "face 1 ", "face 1 0 ", "odds ",
            "odds 1 ", "odds 1 1 ", "sound a 1 1;hold ", "sound a 1 1;hold a ", "sound a 1 1;hold a 1 ", "sound a 1 1;learn ",
            "sound a 1 1;learn a ", "sound a 1 1;learn a a ", "sound a 1 1;learn a a a "};
        for (String part : parts) {
            faultAt(0, part + "|sound b 2 2;" + SPANS);
            faultAt(0, part + "|sound");
            faultAt(0, part + "|odds 2 2;");
            faultAt(0, part + "|learn a a a;");
        }
        shows("Terms 1: of two faults the first");
        faultAt(0, "sound |voice 100 100;");
        faultAt(0, "sound a |100 100;");
        faultAt(0, "sound a 1 1;sound |a 1 1;");
        faultAt(0, "odds |17 0;");
        faultAt(0, "voice |0 10;");
        shows("Terms 1: a byte that begins no TOKEN, if that is ahead");
        faultAt(0, "|#");
        faultAt(0, "sound|# voice 1 1;");
        faultAt(0, "sound a 1 1|#;");
        faultAt(0, WHOLE + "|#");
        faultAt(0, "sound a 1 1 |#");
        shows("Terms 1: a TOKEN that can't stand there, if that is ahead of such a byte");
        faultAt(0, "sound a |100 #");
        faultAt(0, "|x#");
        faultAt(0, "sound |voice#");
        faultAt(0, "sound a 1 |1000#;");
        shows("Terms 1: a byte that begins no TOKEN stands though the text ends too early");
        faultAt(0, "sound a 1 1;|\0");
    }

    private static void tooEarly() {
        shows("Terms 1: the length, if it ends too early");
        String all = "sound ab 12 34;hold ab 5;learn ab ab ab;voice 12 3;face 12 3;odds 12 34;";
        String[] parts = {"sound", "sound ab", "sound ab 12", "sound ab 12 34", "hold", "voice", "voice 12", "voice 12 3", "face", "face 12",
            "face 12 3", "odds", "odds 12", "odds 12 34", "learn"};
        for (String part : parts) {
            faults(0, part, part.length());
            faults(0, part + "  \n", part.length() + 3);
        }
        for (String part : new String[] {"hold ab", "hold ab 5", "learn ab", "learn ab ab", "learn ab ab ab"}) {
            String text = "sound ab 12 34;" + part;
            faults(0, text, text.length());
            faults(0, text + " \n ", text.length() + 3);
        }
        faults(0, all, all.length());
        faults(0, all + "sound b 0 0;", NONE);
        shows("Terms 1: less than two SOUNDS");
        faults(0, SPANS, SPANS.length());
        faults(0, SPANS + "sound a 1 1;", SPANS.length() + 12);
        faults(0, SPANS + "sound a 1 1;   ", SPANS.length() + 15);
        stands(SPANS + TWO, 2);
        shows("Terms 1: no voice or no face");
        faults(0, TWO + "voice 1 0;", TWO.length() + 10);
        faults(0, TWO + "face 1 0; ", TWO.length() + 10);
        faults(0, TWO + "odds 1 1;", TWO.length() + 9);
        shows("Terms 1: the length is the text's, not the bytes' that were there");
        LipsVoice x = new LipsVoice();
        tell(x, WHOLE);
        x.end(TWO.length());
        due("fault(0)", x.fault(0), TWO.length());
        x.end(TWO.length() - 1);
        due("fault(0)", x.fault(0), TWO.length() - 1);
        x.end(1);
        due("fault(0) of a word cut short", x.fault(0), 0);
    }

    private static void sceneTakesThePlace() {
        shows("Promise 5: NONE with a FAULT (the text and the SCENE stay)");
        LipsVoice x = with(WHOLE + "odds 7 8;");
        x.person(1, 2, 103);
        x.answer(101, 0, 0, 1);
        x.image(1);
        tell(x, TWO);
        due("scene()", x.scene(), NONE);
        due("text", x.count(7), TWO.length());
        due("fault(0)", x.fault(0), TWO.length());
        int[] counts = {2, 0, 2, 1, 0, 7, 8, TWO.length()};
        for (int what = 0; what < counts.length; what++) {
            due("count(" + what + ")", x.count(what), counts[what]);
        }
        shows("Promise 5: an empty text is no SCENE");
        due("end(0)", x.end(0), true);
        due("scene()", x.scene(), NONE);
        due("count(2)", x.count(2), 2);
        shows("Terms 1: a SCENE takes the place of the one ahead: no PEOPLE but 0, no ANSWERS, no images");
        tell(x, "sound c 3 4;sound d 5 6;sound e 7 8;voice 2 0;face 2 0;");
        due("scene()", x.scene(), 3);
        shows("Promise 5: the text is empty then");
        due("text", x.count(7), 0);
        due("fault(0)", x.fault(0), 0);
        due("count(2)", x.count(2), 1);
        due("count(3)", x.count(3), 0);
        due("who(1, 0)", x.who(1, 0), VOID);
        due("of(0, 0)", x.of(0, 0), VOID);
        due("undo()", x.undo(), NONE);
        due("back(1)", x.back(1), false);
        due("count(5)", x.count(5), 16);
        due("sound(0, 0)", x.sound(0, 0), 3);
        shows("Terms 1: fewer SOUNDS than ahead: the others are gone");
        tell(x, WHOLE);
        due("scene()", x.scene(), 2);
        due("sound(2, 0)", x.sound(2, 0), NONE);
        due("weight", x.weight(0, 0, 0, 0, 2), NONE);
        due("trial of a SOUND that is gone", x.likely(0, 20, 0, 0), NONE);
    }

    // ---- rules

    private static void lines() {
        shows("Terms 5: at most 10 LINES");
        rulesStand("call fused if 1=1;", 1);
        rulesStand("call fused if 1=1;".repeat(10), 10);
        shows("Terms 5: an 11th LINE at call");
        faultAt(1, "call fused if 1=1;".repeat(10) + "|call fused if 1=1;");
        faultAt(1, "call fused if 1=1;".repeat(10) + "|call");
        shows("Terms 5: no LINE: the length");
        faults(1, "", 0);
        faults(1, " \n ", 3);
        shows("Terms 5: one or more LINES, numbers as they come");
        StringBuilder ten = new StringBuilder();
        for (int k = 0; k < 10; k++) {
            ten.append("call ").append(new String[] {"fused", "apart", "heard", "seen"}[k % 4]).append(" if late=").append(k).append(';');
        }
        LipsVoice x = withRules(WHOLE, ten.toString());
        for (int k = 0; k < 10; k++) {
            due("line at late " + k, x.called(0, 0, k, 1), k);
            due("called at late " + k, x.called(0, 0, k, 0), k % 4);
        }
        due("by none", x.called(0, 0, 10, 1), NONE);
        due("by none", x.called(0, 0, 10, 0), NONE);
        shows("Terms 5: K: fused apart heard seen");
        for (String other : new String[] {"third", "voice", "call", "1", ";", "fuse", "fusedd", "sound"}) {
            faultAt(1, "call |" + other + " if 1=1;");
        }
        shows("Terms 5: call K if");
        faultAt(1, "|if 1=1;");
        faultAt(1, "call fused |1=1;");
        faultAt(1, "call fused |and 1=1;");
        faultAt(1, "call fused if 1=1;|1");
        faultAt(1, "call fused if 1=1;|sound a 1 1;");
        faultAt(1, "call fused if 1=1 |call fused if 1=1;");
        faultAt(1, "call |call fused if 1=1;");
        faultAt(1, "call fused |call fused if 1=1;");
        faultAt(1, "call fused if |call fused if 1=1;");
        faultAt(1, "call fused if 1|call fused if 1=1;");
        faultAt(1, "call fused if 1=|call fused if 1=1;");
        faultAt(1, "call fused if 1=1 and |call fused if 1=1;");
        faultAt(1, "call fused if (|call fused if 1=1;");
    }

    private static void comparisons() {
        shows("Terms 5: E < E or E = E, any number of and C");
        rulesStand("call fused if 1<2;", 1);
        rulesStand("call fused if 1=1" + " and 1=1".repeat(58) + ";", 1);
        faultAt(1, "call fused if 1|;");
        faultAt(1, "call fused if 1 |and 1=1;");
        faultAt(1, "call fused if 1=1 and |;");
        faultAt(1, "call fused if 1=1|=1;");
        faultAt(1, "call fused if 1<1|<1;");
        faultAt(1, "call fused if 1<|=1;");
        faultAt(1, "call fused if 1=1 and 1|;");
        shows("Terms 5: the LINE holds if every C does, and < is not for like ones");
        LipsVoice x = withRules(WHOLE, "call apart if 1=1 and 2<2;call heard if 1<2 and 2<3 and 3=4;call seen if 2=2 and 1<2;");
        due("line", x.called(0, 0, 0, 1), 2);
    }

    private static void numbersAndWords() {
        shows("Terms 5: a number 0 .. 9999");
        rulesStand("call fused if 0=9999;", 1);
        rulesStand("call fused if 0009999=1;", 1);
        faultAt(1, "call fused if |10000=1;");
        faultAt(1, "call fused if 1=|10000;");
        faultAt(1, "call fused if 1+|18446744073709551617=1;");
        faultAt(1, "call fused if |-1=1;");
        faultAt(1, "call fused if 1=|+1;");
        faultAt(1, "call fused if 1-|-1=1;");
        faultAt(1, "call fused if 1*|*1=1;");
        faultAt(1, "call fused if 1+|;");
        shows("Terms 5: third, noticed, voice, face, noise, dark, late");
        rulesStand("call fused if third+noticed+voice+face=noise*dark*late;", 1);
        for (String other : new String[] {"thirds", "sound", "fused", "odds", "lat", "and"}) {
            faultAt(1, "call fused if |" + other + "=1;");
            faultAt(1, "call fused if 1=1*|" + other + ";");
        }
    }

    private static void brackets() {
        shows("Terms 5: brackets are open one in another 8 deep at most");
        rulesStand("call seen if ((((((((1))))))))=1;", 1);
        faultAt(1, "call seen if ((((((((|(1)))))))))=1;");
        rulesStand("call seen if 1=((((((((1))))))));", 1);
        faultAt(1, "call seen if 1=((((((((|(1)))))))));");
        rulesStand("call seen if 1+1*((((((((1*1+1))))))))=1;", 1);
        faultAt(1, "call seen if (((((((1+2*(3-|(1))))))))=1;");
        shows("Terms 5: closed ones are not open");
        rulesStand("call seen if ((((((((1))))))))+((((((((1))))))))*((((((((1))))))))=((((((((1))))))));", 1);
        rulesStand("call seen if (1)+(1)+(1)+(1)+(1)+(1)+(1)+(1)+(1)+(1)+(1)=11;", 1);
        shows("Terms 5: what opens closes, what closes was open");
        faultAt(1, "call seen if (1|;");
        faultAt(1, "call seen if (1|=1);");
        faultAt(1, "call seen if 1|)=1;");
        faultAt(1, "call seen if ((1)|=1;");
        faultAt(1, "call seen if (|)=1;");
        faultAt(1, "call seen if (1+|)=1;");
    }

    private static void rulesTooEarly() {
        shows("Terms 5: the length, if it ends too early");
        String line = "call fused if (1+2)*3<4 and 5=6;";
        int[] cuts = {4, 10, 13, 15, 16, 17, 18, 19, 20, 21, 22, 23, 27, 29, 30, 31};
        for (int cut : cuts) {
            String part = line.substring(0, cut);
            faults(1, part, cut);
            faults(1, part + " \n", cut + 2);
        }
        faults(1, line, NONE);
        faults(1, line + "\n", NONE);
        faults(1, line + "call", line.length() + 4);
        shows("Terms 5: a word cut short is another word");
        faults(1, line.substring(0, 3), 0);
        faults(1, line.substring(0, 9), 5);
        faults(1, line.substring(0, 12), 11);
        faults(1, line.substring(0, 26), 24);
        shows("Terms 5: bytes that begin no TOKEN");
        faultAt(1, "|#");
        faultAt(1, "call fused if 1=1;|#");
        faultAt(1, "call fused if 1|>1;");
        faultAt(1, "call fused if |10000#;");
        faultAt(1, "call fused if 1|/1=1;");
    }

    private static void rulesTakeThePlace() {
        shows("Promise 6: NONE with a FAULT (the text and the RULES stay)");
        LipsVoice x = withRules(WHOLE, "call heard if 1=1;call seen if 1=1;");
        tell(x, "call seen if 1=1;call");
        due("rules()", x.rules(), NONE);
        due("count(7)", x.count(7), 21);
        due("count(4)", x.count(4), 2);
        due("called", x.called(0, 0, 0, 0), 2);
        due("fault(1)", x.fault(1), 21);
        shows("Promise 6: the RULES come of the text, which is empty then");
        due("end(17)", x.end(17), true);
        due("rules()", x.rules(), 1);
        due("count(7)", x.count(7), 0);
        due("count(4)", x.count(4), 1);
        due("called", x.called(0, 0, 0, 0), 3);
        due("an empty text is no RULES", x.rules(), NONE);
        due("count(4)", x.count(4), 1);
        shows("Promise 4: RULES that are looked at often are what they were");
        String most = "call fused if 1=2" + " and 1=1".repeat(58) + ";";
        tell(x, most);
        for (int k = 0; k < 5; k++) {
            due("fault(1)", x.fault(1), NONE);
        }
        due("rules()", x.rules(), 1);
        due("called", x.called(0, 0, 0, 0), NONE);
        tell(x, most.replace("1=2", "2=2"));
        due("fault(1)", x.fault(1), NONE);
        due("rules()", x.rules(), 1);
        due("called", x.called(0, 0, 0, 0), 0);
        tell(x, "call seen if 1=1;");
        due("rules()", x.rules(), 1);
        shows("Terms 1: RULES stay with another SCENE");
        tell(x, ROW);
        due("scene()", x.scene(), 3);
        due("count(4)", x.count(4), 1);
        due("called", x.called(22, 0, 0, 0), 3);
        shows("Promise 6: RULES come without a SCENE too");
        LipsVoice y = new LipsVoice();
        tell(y, "call seen if 1=1;");
        due("rules()", y.rules(), 1);
        due("count(4)", y.count(4), 1);
        due("count(0)", y.count(0), 0);
        due("called", y.called(0, 0, 0, 0), NONE);
        tell(y, WHOLE);
        due("scene()", y.scene(), 2);
        due("called", y.called(0, 0, 0, 0), 3);
    }
}
