/** Each promise of the document by hand: ordinary calls, edges, and calls that can't be. */
public final class PromiseTest extends Checks {
    private static final String RULES = "call fused if noticed < 300 and third = 1000; call apart if 1 = 1;";

    private static String times(String text, int n) {
        return text.repeat(n);
    }

    public static void main(String[] args) {
        newObject();
        feedAndEnd();
        sceneFaults();
        sceneValues();
        rulesFaults();
        scenesAndRules();
        people();
        weights();
        weightsInEdges();
        chances();
        answers();
        fits();
        ownSpansAndOdds();
        sharesAndForetold();
        pairs();
        humps();
        rightAndWorth();
        partedAndNext();
        knowing();
        called();
        draws();
        images();
        counts();
        withoutScene();
        end("PromiseTest");
    }

    private static void newObject() {
        shows("promise 1");
        LipsVoice x = new LipsVoice();
        for (int what = 0; what <= 7; what++) {
            due("count(" + what + ")", x.count(what), 0);
        }
        due("called", x.called(0, 0, 0, 0), NONE);
        due("sound", x.sound(0, 0), NONE);
        due("NONE", LipsVoice.NONE, -1);
        due("VOID", LipsVoice.VOID, -2147483648L);
    }

    private static void feedAndEnd() {
        shows("promise 2");
        LipsVoice x = new LipsVoice();
        for (int k = 1; k <= 25; k++) {
            due("feed " + k, x.feed(-1, 0, 0x20202020, 7, 8), 20 * k);
        }
        due("26th feed", x.feed(0x20202020, 0, 0, 0, 0), NONE);
        due("count(7)", x.count(7), 500);
        shows("promise 3");
        due("end(501)", x.end(501), false);
        due("end(-1)", x.end(-1), false);
        due("count(7)", x.count(7), 500);
        due("end(500)", x.end(500), true);
        due("end(481)", x.end(481), true);
        due("feed at 481", x.feed(0, 0, 0, 0, 0), NONE);
        due("count(7)", x.count(7), 481);
        due("end(480)", x.end(480), true);
        due("feed at 480", x.feed(0, 0, 0, 0, 0), 500);
        due("end(0)", x.end(0), true);
        due("end(1)", x.end(1), false);
        due("end at the least", x.end(Integer.MIN_VALUE), false);
        shows("promise 2");
        // "sound a 1 2;sound b " by its highest bytes first
        due("feed", x.feed(0x736f756e, 0x64206120, 0x3120323b, 0x736f756e, 0x64206220), 20);
        due("feed", x.feed(0x33203420, 0x3b766f69, 0x63652031, 0x20303b66, 0x61636520), 40);
        due("feed", x.feed(0x31203020, 0x3b202020, 0x20202020, 0x20202020, 0x20202020), 60);
        due("scene()", x.scene(), 2);
        due("sound(1, 1)", x.sound(1, 1), 4);
    }

    private static void sceneFaults() {
        shows("promise 4");
        faults(2, "", VOID);
        faults(-1, "", VOID);
        faults(0, ROW, NONE);
        faults(0, "", 0);
        faults(0, "  \n ", 4);
        faultAt(0, "sound ba 10 50; sound |ba 1 1;");
        faultAt(0, "sound ba 10 50; sound da 10 |50;");
        faultAt(0, "sound ba |100 1;");
        faultAt(0, "sound ba 1 |100;");
        faultAt(0, "sound ba |-1 1;");
        faultAt(0, "sound |ninewords 1 1;");
        faults(0, "sound zaz 1 1; sound az 0 9; hold zaz 9; voice 1 0; face 1 0;", NONE);
        faults(0, "sound eightlet 1 1; sound call 1 2; voice 1 0; face 1 0;", NONE);
        for (String key : new String[] {"sound", "voice", "face", "odds", "hold", "learn"}) {
            faultAt(0, "sound |" + key + " 1 1;");
        }
        faultAt(0, "sound |7 1 1;");
        faultAt(0, "sound a 1 1|");
        faultAt(0, "sound a 1 1 |sound");
        faultAt(0, "|a 1 1;");
        faultAt(0, "|;");
        faultAt(0, "|sounda 1 1;");
        faultAt(0, "voice 1 1; |voice 1 1;");
        faultAt(0, "face 1 1; |face 1 1;");
        faultAt(0, "odds 1 1; |odds 1 1;");
        faultAt(0, "odds 16 99; |odds 1 1;");
        faultAt(0, "voice |0 1;");
        faultAt(0, "voice |61 1;");
        faultAt(0, "voice 60 |10;");
        faultAt(0, "face |0 1;");
        faultAt(0, "face |61 1;");
        faultAt(0, "face 60 |10;");
        faultAt(0, "odds |17 1;");
        faultAt(0, "odds 16 |0;");
        faultAt(0, "odds 16 |100;");
        faultAt(0, "hold |ba 1; sound ba 1 1;");
        faultAt(0, "sound ba 1 1; hold ba |0;");
        faultAt(0, "sound ba 1 1; hold ba |10;");
        faultAt(0, "sound ba 1 1; hold ba 1; hold |ba 1;");
        faultAt(0, "sound ba 1 1; hold |voice 1;");
        faultAt(0, "sound ba 1 1; learn ba ba |da;");
        faultAt(0, "sound ba 1 1; learn ba |da ba;");
        faultAt(0, "sound ba 1 1; learn |da ba ba;");
        faultAt(0, "sound a 1 1; sound b 1 2; learn a b a; learn b a a; learn a |b b;");
        StringBuilder nine = new StringBuilder();
        for (int k = 0; k < 9; k++) {
            nine.append("sound ").append((char) ('a' + k)).append(' ').append(k).append(" 0;");
        }
        faults(0, nine + "voice 1 0; face 1 0;", NONE);
        faultAt(0, "voice 1 0; face 1 0;" + nine + "|sound j 50 0;");
        String three = "sound a 1 1;sound b 1 2;sound c 1 3;sound d 1 4;";
        StringBuilder twelve = new StringBuilder(three);
        for (int k = 0; k < 12; k++) {
            twelve.append("learn ").append("abcd".charAt(k / 4)).append(' ').append("abcd".charAt(k % 4)).append(" a;");
        }
        faults(0, twelve + "voice 1 0; face 1 0;", NONE);
        faultAt(0, "voice 1 0; face 1 0;" + twelve + "|learn d d a;");
        faultAt(0, "sound a 1 1; voice 1 1; face 1 1;|");
        faultAt(0, "sound a 1 1; sound b 2 2; face 1 1;|");
        faultAt(0, "sound a 1 1; sound b 2 2; voice 1 1;   |");
        faultAt(0, "sound a 1 1; |# sound");
        faultAt(0, "sound a|# 1 1;");
        faultAt(0, "|\tsound");
        faultAt(0, "|\u00e4");
        faultAt(0, "sound |Ba");
        faultAt(0, "sound a 1 |99999999999999999999999;");
        faultAt(0, "sound a 1 |4294967297;");
        faults(0, "sound a 00000000000000000001 1;sound b 099 99;voice 1 0;face\n1 0;", NONE);
        faultAt(0, "|call fused if 1 = 1;");
        faultAt(0, "sound a 1 1; |+");
    }

    private static void sceneValues() {
        shows("promise 7");
        LipsVoice x = with("sound a 0 99; hold a 9; sound b 7 8; voice 1 0; face 1 0;");
        due("sound(0, 0)", x.sound(0, 0), 0);
        due("sound(0, 1)", x.sound(0, 1), 99);
        due("sound(0, 2)", x.sound(0, 2), 9);
        due("sound(1, 0)", x.sound(1, 0), 7);
        due("sound(1, 1)", x.sound(1, 1), 8);
        due("sound(1, 2)", x.sound(1, 2), 1);
        due("sound(2, 0)", x.sound(2, 0), NONE);
        due("sound(-1, 0)", x.sound(-1, 0), NONE);
        due("sound(0, 3)", x.sound(0, 3), NONE);
        due("sound(0, -1)", x.sound(0, -1), NONE);
        tell(x, ROW);
        due("scene()", x.scene(), 3);
        due("sound(0, 2) of the next scene", x.sound(0, 2), 1);
    }

    private static void rulesFaults() {
        shows("promise 4");
        faults(1, RULES, NONE);
        faults(1, "", 0);
        faults(1, " \n", 2);
        faultAt(1, "|fused");
        faultAt(1, "call |mad if 1 = 1;");
        faultAt(1, "call fused |1 = 1;");
        faultAt(1, "call fused if |;");
        faultAt(1, "call fused if 1|;");
        faultAt(1, "call fused if 1 = |;");
        faultAt(1, "call fused if 1 = 1|");
        faultAt(1, "call fused if 1 = 1 |= 1;");
        faultAt(1, "call fused if 1 = 1 and |and 1 = 1;");
        faultAt(1, "call fused if 1 = 1 and 1 |;");
        faultAt(1, "call fused if 1 + |+ 1 = 1;");
        faultAt(1, "call fused if |- 1 = 1;");
        faultAt(1, "call fused if 1 * |- 1 = 1;");
        faultAt(1, "call fused if |10000 = 1;");
        faultAt(1, "call fused if 9999 = |99999999999999999999;");
        faultAt(1, "call fused if |sound = 1;");
        faultAt(1, "call fused if (1 + 2|;");
        faultAt(1, "call fused if (1 |= 2) = 1;");
        faultAt(1, "call fused if (1 + 2) |) = 1;");
        faultAt(1, "call fused if (|) = 1;");
        faultAt(1, "call fused if third < noticed|");
        faultAt(1, "call fused if 1 = 1;|#");
        faultAt(1, "call fused if 1 = 1; |;");
        faults(1, "call seen if " + times("(", 8) + "1" + times(")", 8) + "=1;", NONE);
        faultAt(1, "call seen if " + times("(", 8) + "|(1" + times(")", 9) + "=1;");
        faults(1, "call seen if (((1)))+((((((((2))))))))<(((((((late)))))));", NONE);
        faults(1, times("call fused if 1=1;", 10), NONE);
        faultAt(1, times("call fused if 1=1;", 10) + "|call fused if 1=1;");
        faults(1, "call heard if third+noticed-voice*face<noise*dark-late and 0 = 9999 ;call seen if 1=1;", NONE);
    }

    private static void scenesAndRules() {
        shows("promise 5");
        LipsVoice x = with(ROW);
        due("text is empty", x.count(7), 0);
        x.person(1, 1, 101);
        x.answer(0, 0, 0, 0);
        x.image(0);
        tell(x, "sound a 1 1;");
        due("scene() with a fault", x.scene(), NONE);
        due("text stays", x.count(7), 12);
        due("scene stays", x.count(0), 3);
        due("people stay", x.count(2), 2);
        due("answers stay", x.count(3), 1);
        due("sound stays", x.sound(0, 0), 10);
        due("weight stays", x.weight(0, 2, 0, 0, -1), 40);
        due("image stays", x.back(0), true);
        shows("promise 6");
        due("rules() with a fault", x.rules(), NONE);
        tell(x, RULES);
        due("rules()", x.rules(), 2);
        due("text is empty", x.count(7), 0);
        tell(x, "call fused");
        due("rules() with a fault", x.rules(), NONE);
        due("rules stay", x.count(4), 2);
        due("text stays", x.count(7), 10);
        due("fault(1)", x.fault(1), 10);
        due("called stays", x.called(2, 0, 0, 0), 0);
        shows("promise 5");
        tell(x, ROW + "odds 9 7;");
        due("scene()", x.scene(), 3);
        due("no people but 0", x.count(2), 1);
        due("who(0, 2)", x.who(0, 2), 9);
        due("no answers", x.count(3), 0);
        due("no images", x.back(0), false);
        due("rules stay", x.count(4), 2);
        LipsVoice y = new LipsVoice();
        tell(y, RULES);
        due("rules() without a scene", y.rules(), 2);
        due("called without a scene", y.called(0, 0, 0, 0), NONE);
    }

    private static void people() {
        shows("promise 8");
        LipsVoice x = with(ROW + "odds 11 50;");
        due("person", x.person(-30, 30, 316), 1);
        due("person", x.person(30, -30, 0), 2);
        due("person", x.person(31, 0, 0), NONE);
        due("person", x.person(-31, 0, 0), NONE);
        due("person", x.person(0, 31, 0), NONE);
        due("person", x.person(0, -31, 0), NONE);
        due("person", x.person(0, 0, 17), NONE);
        due("person", x.person(0, 0, 416), NONE);
        due("person", x.person(0, 0, 400), NONE);
        due("person", x.person(0, 0, -1), NONE);
        due("person", x.person(0, 0, -100), NONE);
        due("person", x.person(Integer.MIN_VALUE, Integer.MAX_VALUE, Integer.MAX_VALUE), NONE);
        due("count(2)", x.count(2), 3);
        shows("promise 9");
        due("who(0, 0)", x.who(0, 0), 0);
        due("who(0, 1)", x.who(0, 1), 0);
        due("who(0, 2)", x.who(0, 2), 11);
        due("who(0, 3)", x.who(0, 3), 0);
        due("who(1, 0)", x.who(1, 0), -30);
        due("who(1, 1)", x.who(1, 1), 30);
        due("who(1, 2)", x.who(1, 2), 16);
        due("who(1, 3)", x.who(1, 3), 3);
        due("who(1, 4)", x.who(1, 4), VOID);
        due("who(1, -1)", x.who(1, -1), VOID);
        due("who(3, 0)", x.who(3, 0), VOID);
        due("who(-1, 0)", x.who(-1, 0), VOID);
        shows("promise 10");
        due("becomes", x.becomes(1, 5, -6, 7), true);
        due("who(1, 0)", x.who(1, 0), 5);
        due("who(1, 1)", x.who(1, 1), -6);
        due("who(1, 2)", x.who(1, 2), 7);
        due("who(1, 3)", x.who(1, 3), 3);
        due("becomes", x.becomes(1, 31, 0, 0), false);
        due("becomes", x.becomes(1, 0, -31, 0), false);
        due("becomes", x.becomes(1, 0, 0, 17), false);
        due("becomes", x.becomes(1, 0, 0, -1), false);
        due("becomes", x.becomes(3, 0, 0, 0), false);
        due("becomes", x.becomes(-1, 0, 0, 0), false);
        due("who(1, 0)", x.who(1, 0), 5);
        due("becomes 0", x.becomes(0, -1, 1, 0), true);
        due("who(0, 2)", x.who(0, 2), 0);
        due("count(5) is the scene's", x.count(5), 11);
        shows("promise 8");
        for (int k = 3; k <= 9; k++) {
            due("person", x.person(0, 0, 0), k);
        }
        due("11th person", x.person(0, 0, 0), NONE);
        due("count(2)", x.count(2), 10);
    }

    private static void weights() {
        shows("promise 11");
        LipsVoice x = with(ROW + "odds 16 10; hold da 2; learn ba ga da;");
        // VOICE ba: 30, 2 * 10, 0; FACE ga: 0, 5, 25; F is 30, A 50, J 100
        due("VOICE ba", x.weight(0, 2, 0, 0, 0), 30);
        due("VOICE da", x.weight(0, 2, 0, 0, 1), 20);
        due("VOICE sum", x.weight(0, 2, 0, 0, -1), 50);
        due("FACE da", x.weight(1, 2, 0, 0, 1), 10);
        due("FACE sum", x.weight(1, 2, 0, 0, -1), 35);
        due("SURER ga", x.weight(2, 2, 0, 0, 2), 25);
        due("ONE da", x.weight(3, 2, 0, 0, 1), 100);
        due("ONE sum", x.weight(3, 2, 0, 0, -1), 100);
        due("ODDS da at 16", x.weight(4, 2, 0, 9, 1), 4800);
        due("ODDS da at 15", x.weight(4, 2, 0, 10, 1), 15 * 3 * 100 + 30 * 20);
        due("ODDS ba at 15", x.weight(4, 2, 0, -5, 0), 30 * 30);
        due("ODDS ba at 7", x.weight(4, 2, 0, 99, 0), 9 * 30 * 30);
        due("ODDS ba at 0", x.weight(4, 2, 0, -99, 0), 16 * 30 * 30);
        due("LEARNT da", x.weight(5, 2, 0, 0, 1), 1);
        due("LEARNT ba", x.weight(5, 2, 0, 0, 0), 0);
        due("LEARNT sum", x.weight(5, 2, 0, 0, -1), 1);
        due("LEARNT as ODDS", x.weight(5, 20, 0, 50, -1), x.weight(4, 20, 0, 50, -1));
        // (10 * 25 + 50 * 30) / 55 is 31
        due("BETWEEN da", x.weight(6, 2, 0, 0, 1), 1);
        due("BETWEEN sum", x.weight(6, 2, 0, 0, -1), 1);
        due("noise", x.weight(0, 2, 90, 0, 2), 75 - 40);
        due("dark", x.weight(1, 2, 9, 0, 0), 70 - 40);
        x.person(5, -5, 16);
        due("person's voice", x.weight(0, 102, 0, 0, 0), 35);
        due("person's face", x.weight(1, 102, 0, 0, 2), 20);
        int[][] wrong = {{-1, 2, 0, 0, 0}, {7, 2, 0, 0, 0}, {0, 3, 0, 0, 0}, {0, 30, 0, 0, 0}, {0, 202, 0, 0, 0}, {0, -1, 0, 0, 0},
            {0, 2, 100, 0, 0}, {0, 2, -1, 0, 0}, {0, 2, 0, 100, 0}, {0, 2, 0, -100, 0}, {0, 2, 0, 0, 3}, {0, 2, 0, 0, -2}};
        for (int[] w : wrong) {
            shows("promise 11");
            due("weight " + java.util.Arrays.toString(w), x.weight(w[0], w[1], w[2], w[3], w[4]), NONE);
            shows("promise 12");
            due("chance " + java.util.Arrays.toString(w), x.chance(w[0], w[1], w[2], w[3], w[4]), NONE);
            if (w[4] == 0) {
                shows("promise 13");
                due("kind " + java.util.Arrays.toString(w), x.kind(w[0], w[1], w[2], w[3], 0), NONE);
                shows("promise 14");
                due("likely " + java.util.Arrays.toString(w), x.likely(w[0], w[1], w[2], w[3]), NONE);
                shows("promise 30");
                due("knowing " + java.util.Arrays.toString(w), x.knowing(w[0], w[1], w[2], w[3]), NONE);
            }
        }
    }

    private static void weightsInEdges() {
        shows("promise 11");
        LipsVoice far = with("sound a 0 0; sound b 99 99; sound c 99 0; voice 1 0; face 1 0; odds 16 1;");
        due("ONE as VOICE", far.weight(3, 1, 0, 0, 0), 1);
        due("ODDS as VOICE", far.weight(4, 1, 0, 0, -1), 1);
        due("ODDS not as VOICE", far.weight(4, 1, 0, 1, -1), 2);
        due("half of W is 1 at least", far.weight(4, 1, 0, -1, -1), 2);
        due("like X on both faces", far.weight(1, 1, 0, 0, 2), 1);
        due("SURER: the face isn't more", far.weight(2, 1, 0, 0, 0), 1);
        far.becomes(0, -30, -30, 16);
        due("spans are 1 at least", far.weight(0, 0, 0, 0, -1), 1);
        due("spans are 1 at least", far.weight(1, 0, 0, 0, -1), 1);
        LipsVoice like = with("sound a 0 0; sound b 10 0; voice 20 0; face 20 0;");
        due("SURER of like ones", like.weight(2, 1, 0, 0, 0), 20);
        like.becomes(0, 0, -1, 16);
        due("SURER FACE", like.weight(2, 1, 0, 0, 0), 9);
        // the place is (0 * 19 + 10 * 20) / 39 = 5: as far from both
        due("BETWEEN of like ones", like.weight(6, 1, 0, 0, 0), 1);
        due("99 without odds", like.weight(4, 1, 0, 98, 0), like.weight(3, 1, 0, 0, 0) * 32);
        LipsVoice high = with("sound a 0 0; sound b 0 9; sound c 9 9; voice 10 0; face 10 0; odds 8 99;");
        due("X and Y together", high.weight(0, 0, 0, 0, 1), 1);
        due("X and Y together", high.weight(0, 0, 0, 0, 2), 0);
        due("BETWEEN keeps the voice's Y", high.likely(6, 20, 0, 0), 1);
        LipsVoice great = with("sound a 0 0;sound b 0 1;sound c 0 2;sound d 0 3;sound e 0 4;sound f 0 5;sound g 0 6;sound h 0 7;"
            + "sound i 0 8;voice 60 9;face 60 9;odds 8 1;hold a 9;hold b 9;hold c 9;hold d 9;hold e 9;hold f 9;hold g 9;hold h 9;hold i 9;");
        great.becomes(0, 30, 30, 16);
        due("the greatest ODDS", great.weight(4, 44, 99, 0, 4), 16L * 9 * (9 * 171) * 171);
        due("the greatest J", great.weight(3, 44, 99, 0, -1), 171L * great.weight(0, 44, 99, 0, -1));
        due("parted of the greatest", great.parted(34, 44, 99, 99), 0);
    }

    private static void chances() {
        shows("promise 12");
        LipsVoice x = with(ROW + "odds 16 10;");
        due("chance 750", x.chance(0, 2, 0, 0, 0), 750);
        due("chance cut", x.chance(1, 2, 0, 0, 2), 833);
        due("chance 0", x.chance(0, 2, 0, 0, 2), 0);
        due("chance NONE", x.chance(0, 2, 0, 0, -1), NONE);
        shows("promise 13");
        due("ALIKE", x.kind(0, 0, 0, 0, 0), 750);
        due("VOICE's of like ones", x.kind(0, 0, 0, 0, 1), 0);
        due("FACE's of like ones", x.kind(0, 0, 0, 0, 2), 0);
        due("THIRD of like ones", x.kind(0, 0, 0, 0, 3), 250);
        due("ALIKE of unlike ones", x.kind(0, 1, 0, 0, 0), 0);
        due("VOICE's", x.kind(0, 12, 0, 0, 1), 600);
        due("FACE's", x.kind(0, 12, 0, 0, 2), 200);
        due("THIRD", x.kind(0, 12, 0, 0, 3), 200);
        due("kind 4", x.kind(0, 12, 0, 0, 4), NONE);
        due("kind -1", x.kind(0, 12, 0, 0, -1), NONE);
        // VOICE 7, 4, 1, 6 of 18: the two that are no one's are told together
        LipsVoice four = with("sound a 0 0; sound b 3 0; sound c 6 0; sound d 1 0; voice 7 0; face 7 0;");
        due("THIRD together", four.kind(0, 2, 0, 0, 3), 1000 * (4 + 6) / (7 + 4 + 1 + 6));
        shows("promise 14");
        due("likely", x.likely(0, 20, 0, 0), 2);
        due("likely face", x.likely(1, 20, 0, 0), 0);
        due("likely one", x.likely(3, 20, 0, 0), 1);
        LipsVoice like = with("sound a 0 0; sound b 2 0; sound c 1 0; voice 9 0; face 9 0; hold b 1; hold c 1;");
        due("of like ones the least", like.likely(3, 1, 0, 0), 2);
        LipsVoice two = with("sound a 0 0; sound b 2 0; voice 9 0; face 9 0;");
        due("of like ones the least", two.likely(3, 1, 0, 0), 0);
        due("of like ones the least", two.likely(3, 10, 0, 0), 0);
        shows("promise 15");
        due("noticed 0 at P 16", x.noticed(2, 0, 0), 0);
        // p 15: 1 * 40 * 30 by 15 * 3 * 50 and that
        due("noticed", x.noticed(2, 0, 10), 1000 * 1200 / (2250 + 1200));
        due("noticed", x.noticed(2, 0, -5), 347);
        due("noticed late", x.noticed(2, 0, -99), 1000);
        LipsVoice far = with("sound a 0 0; sound b 99 99; voice 1 0; face 1 0; odds 16 1;");
        due("both are 0", far.noticed(1, 0, 0), 1000);
        due("p 15, J 0", far.noticed(1, 0, 1), 1000);
        due("noticed who", x.noticed(3, 0, 0), NONE);
        due("noticed who", x.noticed(100, 0, 0), NONE);
        due("noticed setting", x.noticed(0, 100, 0), NONE);
        due("noticed late", x.noticed(0, 0, 100), NONE);
    }

    private static void answers() {
        shows("promise 16");
        LipsVoice x = with(ROW);
        x.person(0, 0, 116);
        due("answer", x.answer(2, 35, -99, 1), 1);
        due("answer", x.answer(111, 99, 99, 102), 2);
        due("answer", x.answer(22, 0, 0, 2), 3);
        due("answer", x.answer(10, 0, 0, 0), 4);
        int[][] wrong = {{3, 0, 0, 0}, {30, 0, 0, 0}, {200, 0, 0, 0}, {-1, 0, 0, 0}, {0, 100, 0, 0}, {0, -1, 0, 0}, {0, 0, 100, 0},
            {0, 0, -100, 0}, {0, 0, 0, 3}, {0, 0, 0, 103}, {0, 0, 0, 200}, {0, 0, 0, -1}, {0, 0, 0, 99}};
        for (int[] w : wrong) {
            due("answer " + java.util.Arrays.toString(w), x.answer(w[0], w[1], w[2], w[3]), NONE);
        }
        due("count(3)", x.count(3), 4);
        shows("promise 18");
        int[][] all = {{2, 35, -99, 1, 0, 3}, {111, 99, 99, 2, 1, 3}, {22, 0, 0, 2, 0, 0}, {10, 0, 0, 0, 0, 2}};
        for (int k = 0; k < all.length; k++) {
            for (int what = 0; what < 6; what++) {
                due("of(" + k + ", " + what + ")", x.of(k, what), all[k][what]);
            }
        }
        due("of(0, 6)", x.of(0, 6), VOID);
        due("of(0, -1)", x.of(0, -1), VOID);
        due("of(4, 0)", x.of(4, 0), VOID);
        due("of(-1, 0)", x.of(-1, 0), VOID);
        shows("promise 17");
        due("undo", x.undo(), 3);
        due("of(3, 0)", x.of(3, 0), VOID);
        due("undo", x.undo(), 2);
        due("undo", x.undo(), 1);
        due("undo", x.undo(), 0);
        due("undo without", x.undo(), NONE);
        shows("promise 16");
        for (int k = 1; k <= 60; k++) {
            due("answer", x.answer(0, 0, 0, 0), k);
        }
        due("61st answer", x.answer(0, 0, 0, 0), NONE);
        due("count(3)", x.count(3), 60);
    }

    private static void fits() {
        shows("promise 19");
        LipsVoice x = with(ROW + "odds 8 99;");
        x.person(0, 0, 16);
        due("without answers", x.more(0, 6, -1), 0);
        due("without answers", x.more(0, 6, 0), 0);
        shows("promise 20");
        due("without answers", x.best(-1), 0);
        due("without answers", x.best(1), 0);
        x.answer(2, 0, 0, 0);
        x.answer(102, 0, 0, 2);
        shows("promise 19");
        due("person 0", x.more(0, 1, 0), 1);
        due("person 1", x.more(0, 1, 1), 2);
        due("all: both are 0", x.more(0, 1, -1), 0);
        due("0 against more", x.more(6, 0, 0), 2);
        due("more against 0", x.more(0, 6, 0), 1);
        due("itself", x.more(4, 4, 0), 0);
        due("law 7", x.more(7, 0, 0), NONE);
        due("law -1", x.more(0, -1, 0), NONE);
        due("person 2", x.more(0, 1, 2), NONE);
        due("person -2", x.more(0, 1, -2), NONE);
        shows("promise 20");
        due("person 0", x.best(0), 0);
        due("person 1", x.best(1), 1);
        due("all at 0: the least", x.best(-1), 0);
        due("person 2", x.best(2), NONE);
        due("person -2", x.best(-2), NONE);
        shows("promise 19");
        // The same chances in another order, 20/30 * 10/30 and 10/30 * 20/30, are alike; one more answer parts them.
        LipsVoice like = with("sound a 0 0; sound b 10 0; voice 20 0; face 20 0;");
        for (int k = 0; k < 29; k++) {
            like.answer(1, 0, 0, 0);
            like.answer(10, 0, 0, 0);
        }
        due("alike", like.more(0, 1, -1), 0);
        like.answer(1, 0, 0, 0);
        due("one more", like.more(0, 1, -1), 1);
        like.undo();
        like.answer(1, 0, 0, 1);
        due("one more", like.more(0, 1, -1), 2);
        // Told of 1000 the chances are alike; 171 of 341 is less than 170 of 339
        LipsVoice fine = with("sound a 0 0; sound b 1 0; voice 60 9; face 60 9;");
        fine.becomes(0, 30, 29, 16);
        fine.answer(0, 99, 0, 0);
        due("alike of 1000", fine.chance(0, 0, 99, 0, 0) - fine.chance(1, 0, 99, 0, 0), 0);
        due("by exact odds", fine.more(0, 1, -1), 2);
    }

    private static void ownSpansAndOdds() {
        shows("promise 21");
        LipsVoice x = with("sound a 10 0; sound b 20 0; voice 20 0; face 20 0; odds 0 99;");
        x.person(30, 30, 16);
        due("without answers", x.own(0, 0), 0);
        due("without answers", x.own(0, 1), 0);
        due("without answers", x.own(0, 2), 0);
        due("without answers", x.own(1, 0), 0);
        // P 0: b is (v - 10) / (2v - 10), the more the greater v; a face span says nothing
        x.answer(0, 0, 0, 1);
        due("the greatest span", x.own(0, 0), 12);
        due("least sum", x.own(0, 1), 0);
        x.undo();
        x.answer(0, 0, 0, 0);
        // a is certain from v 10 on downwards: the nearest to 0
        due("the nearest of the sure", x.own(0, 0), -10);
        due("least sum", x.own(0, 1), 0);
        due("odds", x.own(0, 2), 16);
        x.undo();
        // b with a as VOICE: P 16 lets the face speak, b is the FACE's
        x.answer(1, 0, 0, 1);
        due("odds", x.own(0, 2), 16);
        x.undo();
        due("other person's", x.own(1, 2), 0);
        due("own(0, 3)", x.own(0, 3), VOID);
        due("own(0, -1)", x.own(0, -1), VOID);
        due("own(2, 0)", x.own(2, 0), VOID);
        due("own(-1, 0)", x.own(-1, 0), VOID);
        // ONE at P 16: f and v count alike; of (-1, 0) and (0, -1) the least voice's change
        LipsVoice even = with("sound a 10 0; sound b 20 0; voice 11 0; face 11 0; odds 16 99;");
        even.answer(0, 0, 0, 0);
        due("least voice's change", even.own(0, 0), -1);
        due("then the face's", even.own(0, 1), 0);
        // a is certain with f 10 or v 10 at most: as it is, with f 10, nothing has to change
        LipsVoice sure = with("sound a 10 0; sound b 20 0; voice 11 0; face 10 0; odds 16 99;");
        sure.answer(0, 0, 0, 0);
        due("as it is", sure.own(0, 0), 0);
        due("as it is", sure.own(0, 1), 0);
        // All J are alike 0 for changes of the face within 5: the first of like ones is no change at all
        LipsVoice far = with("sound a 0 0; sound b 90 90; voice 20 0; face 20 0; odds 16 99;");
        far.answer(0, 0, 0, 0);
        due("no change", far.own(0, 0), 0);
        due("no change", far.own(0, 1), 0);
        due("of like odds the least", far.own(0, 2), 0);
    }

    private static void sharesAndForetold() {
        shows("promise 22");
        LipsVoice x = with(ROW);
        x.person(0, 0, 116);
        x.person(0, 0, 316);
        due("no answers", x.share(-1, 0), NONE);
        x.answer(0, 0, 0, 0);
        x.answer(2, 0, 0, 100);
        x.answer(102, 0, 0, 102);
        due("all ALIKE", x.share(-1, 0), 333);
        due("all VOICE's", x.share(-1, 1), 333);
        due("all FACE's", x.share(-1, 2), 333);
        due("all THIRD", x.share(-1, 3), 0);
        due("all noticed", x.share(-1, 4), 666);
        due("land 0", x.share(0, 0), 500);
        due("land 1", x.share(1, 2), 1000);
        due("land 2", x.share(2, 0), NONE);
        due("land 3", x.share(3, 0), NONE);
        due("land 4", x.share(4, 0), NONE);
        due("land -2", x.share(-2, 0), NONE);
        due("kind 5", x.share(-1, 5), NONE);
        due("kind -1", x.share(-1, -1), NONE);
        shows("promise 23");
        // VOICE: ba with ba 750 ALIKE and 250 THIRD; ba with ga 750, 0, 250 THIRD (twice)
        due("ALIKE", x.foretold(0, -1, 0), 250);
        due("VOICE's", x.foretold(0, -1, 1), 500);
        due("FACE's", x.foretold(1, -1, 2), 833 * 2 / 3);
        due("THIRD", x.foretold(0, -1, 3), 250);
        due("land 0", x.foretold(0, 0, 1), 375);
        due("land 1", x.foretold(3, 1, 3), 1000);
        due("land 2", x.foretold(3, 2, 3), NONE);
        due("noticed", x.foretold(0, -1, 4), 0);
        x.becomes(1, 0, 0, 15);
        due("noticed", x.foretold(6, 1, 4), 347);
        due("noticed", x.foretold(6, -1, 4), 347 / 3);
        due("noticed by law 7", x.foretold(7, -1, 4), NONE);
        due("law -1", x.foretold(-1, -1, 0), NONE);
        due("kind 5", x.foretold(0, -1, 5), NONE);
        due("kind -1", x.foretold(0, -1, -1), NONE);
        due("land 4", x.foretold(0, 4, 0), NONE);
        due("land -2", x.foretold(0, -2, 0), NONE);
        while (x.count(3) > 0) {
            x.undo();
        }
        due("no answers", x.foretold(0, -1, 0), NONE);
    }

    private static void pairs() {
        shows("promise 24");
        LipsVoice x = with(ROW);
        due("thirds", x.pairs(33, 0, 0, 0, -1), 2);
        due("first", x.pairs(33, 0, 0, 0, 0), 2);
        due("second", x.pairs(33, 0, 0, 0, 1), 20);
        due("third", x.pairs(33, 0, 0, 0, 2), NONE);
        due("k -2", x.pairs(33, 0, 0, 0, -2), NONE);
        due("VOICE's by VOICE", x.pairs(10, 0, 0, 0, -1), 6);
        int[] all = {1, 2, 10, 12, 20, 21};
        for (int k = 0; k < 6; k++) {
            due("VOICE's by VOICE " + k, x.pairs(10, 0, 0, 0, k), all[k]);
        }
        due("FACE's by FACE", x.pairs(21, 0, 0, 0, 5), 21);
        due("ALIKE", x.pairs(0, 0, 0, 0, -1), 0);
        due("ALIKE first", x.pairs(0, 0, 0, 0, 0), NONE);
        due("kind 4", x.pairs(40, 0, 0, 0, -1), NONE);
        due("law 7", x.pairs(37, 0, 0, 0, -1), NONE);
        due("kinds -1", x.pairs(-1, 0, 0, 0, -1), NONE);
        due("person 1", x.pairs(33, 1, 0, 0, -1), NONE);
        due("person -1", x.pairs(33, -1, 0, 0, -1), NONE);
        due("setting 100", x.pairs(33, 0, 100, 0, -1), NONE);
        due("late 100", x.pairs(33, 0, 0, 100, -1), NONE);
        due("late -100", x.pairs(33, 0, 0, -100, -1), NONE);
    }

    private static void humps() {
        shows("promise 25");
        // At p: THIRD is 4800 - 150 p of 19200 - 1050 p; 513 at 13, 454 at 12
        LipsVoice x = with(ROW + "odds 16 3;");
        due("above", x.hump(2, 0, 0), 11);
        due("below: half of 3 is 1", x.hump(2, 0, 1), 3);
        LipsVoice wide = with(ROW + "odds 16 25;");
        due("above as far as 99", wide.hump(2, 0, 0), 99);
        due("below: half of 25 is 12", wide.hump(2, 0, 1), 47);
        LipsVoice one = with(ROW + "odds 16 1;");
        due("above", one.hump(2, 0, 0), 3);
        due("below: half of 1 is 1", one.hump(2, 0, 1), 3);
        // VOICE 21, 1, 0 and FACE 0, 1, 21: 1000 at 16, 126 at 15
        LipsVoice sharp = with("sound ba 10 0; sound da 30 0; sound ga 50 0; voice 21 0; face 21 0; odds 16 1;");
        due("gone at 1", sharp.hump(2, 0, 0), 0);
        due("gone at -1", sharp.hump(2, 0, 1), 0);
        LipsVoice last = with("sound ba 10 0; sound da 30 0; sound ga 50 0; voice 21 0; face 21 0; odds 16 99;");
        due("gone at 99 alone", last.hump(2, 0, 0), 98);
        due("gone at half of 99", last.hump(2, 0, 1), 48);
        due("side 2", one.hump(2, 0, 2), NONE);
        due("side -1", one.hump(2, 0, -1), NONE);
        due("who 3", one.hump(3, 0, 0), NONE);
        due("who -1", one.hump(-1, 0, 0), NONE);
        due("setting 100", one.hump(2, 100, 0), NONE);
        LipsVoice two = with("sound a 0 0; sound b 1 0; voice 9 0; face 9 0;");
        due("no third", two.hump(1, 0, 0), NONE);
        due("no third", two.hump(1, 0, 1), NONE);
        due("a third of one", two.hump(0, 0, 0), 99);
        // VOICE 9, 4, 1 and FACE 0, 3, 7: 12 of 19 at 0; 628 of 1991 at 13, where p is 3
        LipsVoice odd = with("sound ba 10 0; sound da 14 1; sound ga 18 0; voice 9 0; face 7 0; odds 16 1;");
        due("THIRD at 0", odd.kind(4, 2, 0, 0, 3), 631);
        due("THIRD at 13", odd.kind(4, 2, 0, 13, 3), 315);
        due("315 is less than half of 631", odd.hump(2, 0, 0), 12);
        LipsVoice even = with("sound ba 10 0; sound da 31 3; sound ga 52 0; voice 33 0; face 24 0; odds 14 1;");
        due("THIRD at 0", even.kind(4, 2, 0, 0, 3), 476);
        due("THIRD at 9", even.kind(4, 2, 0, 9, 3), 238);
        due("238 is half of 476", even.hump(2, 0, 0), 9);
    }

    private static void rightAndWorth() {
        shows("promise 26");
        LipsVoice x = with(ROW);
        due("VOICE", x.right(0, 0, 0), 2100);
        due("VOICE at noise 1", x.right(0, 0, 10), 700 + 538 + 700);
        due("FACE at dark 9", x.right(1, 0, 9), 466 + 411 + 466);
        due("BETWEEN", x.right(6, 0, 0), 3000);
        x.person(5, 0, 0);
        due("person 1", x.right(0, 1, 0), 1938);
        due("law 7", x.right(7, 0, 0), NONE);
        due("law -1", x.right(-1, 0, 0), NONE);
        due("person 2", x.right(0, 2, 0), NONE);
        due("person -1", x.right(0, -1, 0), NONE);
        due("setting 100", x.right(0, 0, 100), NONE);
        due("setting -1", x.right(0, 0, -1), NONE);
        shows("promise 27");
        due("nothing", x.worth(0, 0, 55), 0);
        due("as often at noise 8", x.worth(1, 0, 99), 1);
        due("never as often", x.worth(6, 0, 99), NONE);
        due("more often at noise 0", x.worth(1, 0, 2), 0);
        // VOICE at 1 is 1938, at 2 1832; FACE at dark 2 is f 35: 1938
        due("as often at noise 1", x.worth(1, 0, 52), 4);
        due("less at noise 0", x.worth(1, 0, 9), 0);
        due("law 7", x.worth(7, 0, 0), NONE);
        due("person 2", x.worth(0, 2, 0), NONE);
        due("setting 100", x.worth(0, 0, 100), NONE);
        due("setting -1", x.worth(0, 0, -1), NONE);
    }

    private static void partedAndNext() {
        shows("promise 28");
        LipsVoice x = with(ROW);
        due("ONE and VOICE", x.parted(30, 2, 0, 0), 750);
        due("VOICE and ONE", x.parted(3, 2, 0, 0), 750);
        due("itself", x.parted(33, 2, 0, 0), 0);
        // 35/50, 15/50 by 0, 1
        due("at noise 1", x.parted(30, 2, 10, 0), 700);
        // 10, 30, 10 of 50 and 250, 150, 0 of 400
        due("half the sum", x.parted(30, 10, 0, 0), 425);
        // 10, 30, 10 of 50 and 50, 750, 50 of 850: 282.35
        due("cut once", x.parted(3, 11, 0, 0), 282);
        due("laws 7", x.parted(7, 2, 0, 0), NONE);
        due("laws 70", x.parted(70, 2, 0, 0), NONE);
        due("laws -1", x.parted(-1, 2, 0, 0), NONE);
        due("who 3", x.parted(0, 3, 0, 0), NONE);
        due("setting 100", x.parted(0, 0, 100, 0), NONE);
        due("late 100", x.parted(0, 0, 0, 100), NONE);
        shows("promise 29");
        due("next", x.next(30, 0, 0, 0), 20);
        due("how much", x.next(30, 0, 0, 1), 750);
        due("itself", x.next(44, 0, 0, 0), 0);
        due("itself how much", x.next(44, 0, 0, 1), 0);
        due("dark 10", x.next(30, 0, 10, 0), NONE);
        due("dark -1", x.next(30, 0, -1, 0), NONE);
        due("what 2", x.next(30, 0, 0, 2), NONE);
        due("what -1", x.next(30, 0, 0, -1), NONE);
        due("person 1", x.next(30, 1, 0, 0), NONE);
        due("person -1", x.next(30, -1, 0, 0), NONE);
        due("laws 67", x.next(67, 0, 0, 0), NONE);
        due("laws 70", x.next(70, 0, 0, 0), NONE);
        due("laws -1", x.next(-1, 0, 0, 0), NONE);
    }

    private static void knowing() {
        shows("promise 30");
        LipsVoice x = with(ROW + "learn ga ba da;");
        due("ODDS", x.knowing(4, 2, 0, 0), 0);
        due("VOICE", x.knowing(0, 2, 0, 0), 1);
        due("ODDS of like ones", x.knowing(4, 0, 0, 0), 1);
        due("LEARNT told", x.knowing(5, 20, 0, 0), 1);
        due("LEARNT as ODDS", x.knowing(5, 2, 0, 0), 0);
        x.person(0, 0, 0);
        due("P is 0 already", x.knowing(4, 102, 0, 0), 1);
        due("who(0, 2) stays", x.who(0, 2), 16);
    }

    private static void calls(String rules, int outcome, int line) {
        LipsVoice x = withRules(ROW + "odds 16 10;", rules);
        due(rules, x.called(2, 37, -10, 0), outcome);
        due(rules, x.called(2, 37, -10, 1), line);
    }

    private static void called() {
        shows("promise 31");
        LipsVoice x = withRules(ROW + "odds 16 10;", RULES);
        due("first", x.called(2, 0, 0, 0), 0);
        due("first's line", x.called(2, 0, 0, 1), 0);
        due("second", x.called(2, 0, -99, 0), 1);
        due("second's line", x.called(2, 0, -99, 1), 1);
        due("what 2", x.called(2, 0, 0, 2), NONE);
        due("what -1", x.called(2, 0, 0, -1), NONE);
        due("who 3", x.called(3, 0, 0, 0), NONE);
        due("setting 100", x.called(0, 100, 0, 0), NONE);
        due("late 100", x.called(0, 0, 100, 0), NONE);
        due("no rules", with(ROW).called(2, 0, 0, 0), NONE);
        calls("call seen if 1 = 0; call heard if 2 < 2;", NONE, NONE);
        calls("call seen if 1 = 0; call heard if 1 < 2; call fused if 1 = 1;", 2, 1);
        calls("call seen if noise = 3 and dark = 7 and late = 10;", 3, 0);
        calls("call seen if 1 + 2 * 3 = 7;", 3, 0);
        calls("call seen if (1 + 2) * 3 = 9;", 3, 0);
        calls("call seen if 10 - 3 - 2 = 5;", 3, 0);
        calls("call seen if 10 - (3 - 2) = 9;", 3, 0);
        calls("call seen if 9999 * 9999 = 9999 * 101 and 9999 * 100 < 9999 * 101;", 3, 0);
        calls("call seen if 0 - 9999 * 9999 = 0 - 9999 * 101;", 3, 0);
        calls("call seen if 9999 * 9999 + 1 - 1 = 9999 * 100 + 99;", 3, 0);
        calls("call seen if (0 - 9999) * 9999 < 0 - 9999 * 100;", 3, 0);
        // v 45, f 60 and P 16 less 10 / 5: the chances as the calls tell them
        LipsVoice y = with(ROW + "odds 16 10;");
        String atoms = "call apart if third = " + y.kind(4, 2, 37, -10, 3) + " and noticed = " + y.noticed(2, 37, -10) + " and voice = "
            + y.chance(4, 2, 37, -10, 0) + " and face = " + y.chance(4, 2, 37, -10, 2) + ";";
        calls(atoms, 1, 0);
        LipsVoice like = withRules(ROW, "call heard if voice = face and third + voice < 1001 and 998 < third + voice;");
        due("like ones", like.called(11, 0, 0, 0), 2);
    }

    private static void draws() {
        shows("promise 32");
        LipsVoice x = with(ROW + "odds 16 99;");
        x.person(2, 3, 116);
        due("draw", x.draw(4, 1, 77, 5), 5);
        long state = 77;
        for (int k = 0; k < 5; k++) {
            int[] lots = new int[7];
            int[] below = {3, 3, 10, 10, 199, 0, 1000};
            int late = 0;
            int who = 0;
            int setting = 0;
            for (int j = 0; j < 7; j++) {
                state = (state * 1103515245L + 12345L) % (1L << 31);
                if (j == 5) {
                    who = 100 + lots[0] * 10 + lots[1];
                    setting = lots[2] * 10 + lots[3];
                    late = lots[4] - 99;
                    below[5] = x.weight(4, who, setting, late, -1);
                }
                lots[j] = (int) (state / 256 % below[j]);
            }
            int said = 0;
            int sum = x.weight(4, who, setting, late, 0);
            while (sum <= lots[5]) {
                said++;
                sum += x.weight(4, who, setting, late, said);
            }
            due("who", x.of(k, 0), who);
            due("setting", x.of(k, 1), setting);
            due("late", x.of(k, 2), late);
            due("said", x.of(k, 3), said);
            due("noticed", x.of(k, 4), lots[6] < x.noticed(who, setting, late) ? 1 : 0);
        }
        int[][] wrong = {{-1, 0, 0, 1}, {7, 0, 0, 1}, {0, 2, 0, 1}, {0, -1, 0, 1}, {0, 0, -1, 1}, {0, 0, 1000001, 1}, {0, 0, 0, 0},
            {0, 0, 0, 21}, {0, 0, 0, -5}};
        for (int[] w : wrong) {
            due("draw " + java.util.Arrays.toString(w), x.draw(w[0], w[1], w[2], w[3]), NONE);
        }
        due("draw", x.draw(6, 0, 1000000, 20), 25);
        due("draw", x.draw(6, 0, 0, 20), 45);
        due("more than 60", x.draw(6, 0, 0, 16), NONE);
        due("count(3)", x.count(3), 45);
        due("draw", x.draw(6, 0, 0, 15), 60);
        due("no place", x.draw(6, 0, 0, 1), NONE);
    }

    private static void images() {
        shows("promise 33");
        LipsVoice x = with(ROW);
        due("image(3)", x.image(3), false);
        due("image(-1)", x.image(-1), false);
        shows("promise 34");
        due("back(0) without", x.back(0), false);
        due("back(3)", x.back(3), false);
        due("back(-1)", x.back(-1), false);
        x.person(1, 2, 103);
        x.answer(101, 5, 6, 102);
        shows("promise 33");
        due("image(2)", x.image(2), true);
        x.becomes(1, 9, 9, 9);
        x.person(4, 5, 206);
        x.undo();
        x.answer(200, 0, 0, 0);
        x.answer(201, 0, 0, 0);
        due("image(0)", x.image(0), true);
        shows("promise 34");
        for (int again = 0; again < 2; again++) {
            due("back(2)", x.back(2), true);
            due("people", x.count(2), 2);
            due("answers", x.count(3), 1);
            due("who(1, 0)", x.who(1, 0), 1);
            due("who(1, 2)", x.who(1, 2), 3);
            due("who(1, 3)", x.who(1, 3), 1);
            due("who(2, 0)", x.who(2, 0), VOID);
            due("of(0, 0)", x.of(0, 0), 101);
            due("of(0, 2)", x.of(0, 2), 6);
            due("of(0, 4)", x.of(0, 4), 1);
            x.becomes(1, -9, -9, 0);
            x.undo();
            x.person(0, 0, 0);
        }
        due("back(0)", x.back(0), true);
        due("who(2, 3)", x.who(2, 3), 2);
        due("of(1, 0)", x.of(1, 0), 201);
        due("back(1)", x.back(1), false);
        due("image(0) takes the place", x.image(0), true);
        tell(x, ROW);
        x.scene();
        due("no images in another scene", x.back(0), false);
        due("no images in another scene", x.back(2), false);
    }

    private static void counts() {
        shows("promise 35");
        LipsVoice x = withRules(ROW + "odds 9 42; learn ba ga da; learn ga ba da;", RULES);
        x.person(0, 0, 0);
        x.answer(0, 0, 0, 0);
        x.feed(0, 0, 0, 0, 0);
        int[] all = {3, 2, 2, 1, 2, 9, 42, 20};
        for (int what = 0; what < 8; what++) {
            due("count(" + what + ")", x.count(what), all[what]);
        }
        due("count(8)", x.count(8), NONE);
        due("count(-1)", x.count(-1), NONE);
        LipsVoice y = with(ROW);
        due("P without odds", y.count(5), 16);
        due("W without odds", y.count(6), 99);
        LipsVoice z = new LipsVoice();
        tell(z, ROW + "odds 9 42;");
        due("fault(0)", z.fault(0), NONE);
        due("P without a scene", z.count(5), 0);
        due("W without a scene", z.count(6), 0);
        due("SOUNDS without a scene", z.count(0), 0);
    }

    private static void withoutScene() {
        LipsVoice x = new LipsVoice();
        shows("without a scene");
        due("person", x.person(0, 0, 0), NONE);
        due("who", x.who(0, 0), VOID);
        due("becomes", x.becomes(0, 0, 0, 0), false);
        due("weight", x.weight(0, 0, 0, 0, -1), NONE);
        due("chance", x.chance(0, 0, 0, 0, 0), NONE);
        due("kind", x.kind(0, 0, 0, 0, 0), NONE);
        due("likely", x.likely(0, 0, 0, 0), NONE);
        due("noticed", x.noticed(0, 0, 0), NONE);
        due("answer", x.answer(0, 0, 0, 0), NONE);
        due("undo", x.undo(), NONE);
        due("of", x.of(0, 0), VOID);
        due("more of a person", x.more(0, 1, 0), NONE);
        due("more of all", x.more(0, 1, -1), 0);
        due("best", x.best(-1), NONE);
        due("best", x.best(0), NONE);
        due("own", x.own(0, 0), VOID);
        due("share", x.share(-1, 0), NONE);
        due("foretold", x.foretold(0, -1, 0), NONE);
        due("pairs", x.pairs(33, 0, 0, 0, -1), NONE);
        due("hump", x.hump(0, 0, 0), NONE);
        due("right", x.right(0, 0, 0), NONE);
        due("worth", x.worth(0, 0, 0), NONE);
        due("parted", x.parted(0, 0, 0, 0), NONE);
        due("next", x.next(0, 0, 0, 0), NONE);
        due("knowing", x.knowing(0, 0, 0, 0), NONE);
        due("called", x.called(0, 0, 0, 0), NONE);
        due("draw", x.draw(0, 0, 0, 1), NONE);
        due("image", x.image(0), false);
        due("back", x.back(0), false);
    }
}
