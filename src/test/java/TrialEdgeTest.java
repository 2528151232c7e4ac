/** Terms 2, 4 and 5, promises 11 to 15 and 24 to 31: each sentence on trials that names an edge, a least, a greatest or a tie. */
public final class TrialEdgeTest extends Checks {
    private static final int VOICE = 0;
    private static final int FACE = 1;
    private static final int SURER = 2;
    private static final int ONE = 3;
    private static final int ODDS = 4;
    private static final int LEARNT = 5;
    private static final int BETWEEN = 6;

    // Three in a row: VOICE ba is 30, 10, 0, FACE ga 0, 5, 25, both 0, 50, 0.
    private static final String ROW10 = ROW + "odds 16 10;";
    private static final String PAIR = "sound a 0 0;sound b 10 0;";

    public static void main(String[] args) {
        trialsThatCanBe();
        lawsAnswersAndKinds();
        spansAtLeastOne();
        sumsAtLeastNone();
        lateness();
        surer();
        oneAndOdds();
        learnt();
        between();
        greatestWeights();
        chancesCut();
        noticedEdges();
        likelyTies();
        kinds();
        pairs();
        humps();
        right();
        worth();
        parted();
        next();
        knowing();
        calledNumbers();
        calledBounds();
        end("TrialEdgeTest");
    }

    // ---- what a trial can be

    /** Every call on a trial, by its own answer where the trial can't be. */
    private static void trial(LipsVoice x, int who, int setting, int late, boolean canBe) {
        String told = "(" + who + ", " + setting + ", " + late + ")";
        for (int law = 0; law < 7; law++) {
            due("weight" + told, x.weight(law, who, setting, late, NONE) > NONE, canBe);
            due("likely" + told, x.likely(law, who, setting, late) > NONE, canBe);
        }
        due("chance" + told, x.chance(0, who, setting, late, 0) > NONE, canBe);
        due("kind" + told, x.kind(0, who, setting, late, 0) > NONE, canBe);
        due("noticed" + told, x.noticed(who, setting, late) > NONE, canBe);
        due("parted" + told, x.parted(13, who, setting, late) > NONE, canBe);
        due("knowing" + told, x.knowing(0, who, setting, late) > NONE, canBe);
        due("called" + told, x.called(who, setting, late, 0) > NONE, canBe);
        due("answer" + told, x.answer(who, setting, late, 0) > NONE, canBe);
    }

    private static void trialsThatCanBe() {
        LipsVoice x = withRules(ROW, "call fused if 1=1;");
        shows("Terms 2: of a WHO: PERSON, VOICE and FACE, as SOUNDS");
        x.person(0, 0, 0);
        trial(x, 0, 0, 0, true);
        trial(x, 122, 0, 0, true);
        trial(x, 200, 0, 0, false);
        trial(x, 130, 0, 0, false);
        trial(x, 103, 0, 0, false);
        trial(x, 9, 0, 0, false);
        trial(x, 90, 0, 0, false);
        LipsVoice y = withRules(ROW, "call fused if 1=1;");
        trial(y, 100, 0, 0, false);
        trial(y, -1, 0, 0, false);
        trial(y, -100, 0, 0, false);
        trial(y, Integer.MIN_VALUE, 0, 0, false);
        trial(y, Integer.MAX_VALUE, 0, 0, false);
        shows("Terms 2: NOISE and DARK 0 .. 9 each");
        trial(y, 1, 99, 0, true);
        trial(y, 1, 9, 0, true);
        trial(y, 1, 90, 0, true);
        trial(y, 1, 100, 0, false);
        trial(y, 1, -1, 0, false);
        trial(y, 1, -10, 0, false);
        LipsVoice z = withRules(ROW, "call fused if 1=1;");
        trial(z, 1, Integer.MAX_VALUE, 0, false);
        trial(z, 1, Integer.MIN_VALUE, 0, false);
        shows("Terms 2: how LATE the VOICE is: -99 .. 99");
        trial(z, 1, 0, 99, true);
        trial(z, 1, 0, -99, true);
        trial(z, 1, 0, 100, false);
        trial(z, 1, 0, -100, false);
        trial(z, 1, 0, Integer.MAX_VALUE, false);
        trial(z, 1, 0, Integer.MIN_VALUE, false);
        shows("without a SCENE no TRIAL can be");
        trial(new LipsVoice(), 0, 0, 0, false);
    }

    private static void lawsAnswersAndKinds() {
        LipsVoice x = with(ROW);
        int[] others = {-1, 7, 8, 10, Integer.MIN_VALUE, Integer.MAX_VALUE};
        for (int law : others) {
            shows("Promises 11 to 14, 26, 27, 30: NONE if there is no such LAW");
            due("weight", x.weight(law, 0, 0, 0, 0), NONE);
            due("weight of all", x.weight(law, 0, 0, 0, NONE), NONE);
            due("chance", x.chance(law, 0, 0, 0, 0), NONE);
            due("kind", x.kind(law, 0, 0, 0, 0), NONE);
            due("likely", x.likely(law, 0, 0, 0), NONE);
            due("right", x.right(law, 0, 0), NONE);
            due("worth", x.worth(law, 0, 0), NONE);
            due("knowing", x.knowing(law, 0, 0, 0), NONE);
        }
        shows("Promise 11: the weight of an answer, or (NONE) of all; NONE if there is none such");
        due("weight", x.weight(VOICE, 0, 0, 0, 2), 0);
        due("weight", x.weight(VOICE, 0, 0, 0, NONE), 40);
        due("weight", x.weight(VOICE, 0, 0, 0, 3), NONE);
        due("weight", x.weight(VOICE, 0, 0, 0, -2), NONE);
        due("weight", x.weight(VOICE, 0, 0, 0, Integer.MIN_VALUE), NONE);
        due("weight", x.weight(VOICE, 0, 0, 0, Integer.MAX_VALUE), NONE);
        shows("Promise 12: NONE, if there is no such answer");
        due("chance", x.chance(VOICE, 0, 0, 0, 2), 0);
        due("chance", x.chance(VOICE, 0, 0, 0, NONE), NONE);
        due("chance", x.chance(VOICE, 0, 0, 0, 3), NONE);
        due("chance", x.chance(VOICE, 0, 0, 0, 100), NONE);
        shows("Promise 13: KINDS are 0 to 3");
        due("kind", x.kind(VOICE, 0, 0, 0, 3), 250);
        due("kind", x.kind(VOICE, 0, 0, 0, 4), NONE);
        due("kind", x.kind(VOICE, 0, 0, 0, -1), NONE);
        due("kind", x.kind(VOICE, 0, 0, 0, Integer.MIN_VALUE), NONE);
    }

    // ---- spans and sums

    private static void spansAtLeastOne() {
        shows("Terms 2: v and f each 1 at least");
        LipsVoice x = with("sound a 0 0;sound b 1 0;voice 5 1;face 5 1;");
        x.person(-3, -3, 16);
        x.person(-4, -4, 16);
        x.person(-5, -5, 16);
        x.person(-30, -30, 16);
        int[] spans = {5, 2, 1, 1, 1};
        for (int person = 0; person < spans.length; person++) {
            due("v of " + person, x.weight(VOICE, person * 100, 0, 0, 0), spans[person]);
            due("f of " + person, x.weight(FACE, person * 100, 0, 0, 0), spans[person]);
        }
        shows("Terms 2: v is S, the change and G * NOISE, f S, the change and G * DARK: 1 at least of all together");
        due("v at noise 9", x.weight(VOICE, 300, 90, 0, 0), 9);
        due("v at dark 9", x.weight(VOICE, 300, 9, 0, 0), 1);
        due("f at dark 9", x.weight(FACE, 300, 9, 0, 0), 9);
        due("f at noise 9", x.weight(FACE, 300, 90, 0, 0), 1);
        due("v as far below 1 as can be", x.weight(VOICE, 400, 90, 0, 0), 1);
        due("v's greatest change", x.person(30, 30, 16), 5);
        due("v", x.weight(VOICE, 500, 99, 0, 0), 44);
        due("f", x.weight(FACE, 500, 99, 0, 0), 44);
    }

    private static void sumsAtLeastNone() {
        shows("Terms 2: a(j) 0 at least: X and Y together, from the VOICE's");
        LipsVoice x = with("sound a 50 50;sound b 56 53;sound c 43 47;sound d 50 60;voice 10 0;face 7 0;hold b 9;hold c 3;");
        int[] heard = {10, 9, 0, 0};
        int[] seen = {7, 9, 0, 7};
        for (int j = 0; j < 4; j++) {
            due("a(" + j + ")", x.weight(VOICE, 0, 0, 0, j), heard[j]);
            shows("Terms 2: f(j) 0 at least: X alone, from the FACE's; FACE is H times f(j)");
            due("f(" + j + ")", x.weight(FACE, 0, 0, 0, j), seen[j]);
        }
        due("A", x.weight(VOICE, 0, 0, 0, NONE), 19);
        due("F", x.weight(FACE, 0, 0, 0, NONE), 23);
    }

    private static int trust(LipsVoice x, int late) {
        // VOICE a is 9, 0: of a the weight by ODDS is p * 2 * 9 * 9 + (16 - p) * 9 * 9, that is (16 + p) * 81.
        return x.weight(ODDS, 0, 0, late, 0) / 81 - 16;
    }

    private static void lateness() {
        String far = "sound a 0 0;sound b 20 0;voice 9 0;face 9 0;";
        shows("Terms 2: p is P less LATE / W (cut)");
        LipsVoice x = with(far + "odds 12 10;");
        int[][] late = {{0, 12}, {1, 12}, {9, 12}, {10, 11}, {19, 11}, {20, 10}, {99, 3}};
        for (int[] one : late) {
            due("p at " + one[0], trust(x, one[0]), one[1]);
        }
        shows("Terms 2: if LATE is below 0, less -LATE by half of W");
        int[][] early = {{-1, 12}, {-4, 12}, {-5, 11}, {-9, 11}, {-10, 10}, {-59, 1}, {-60, 0}};
        for (int[] one : early) {
            due("p at " + one[0], trust(x, one[0]), one[1]);
        }
        shows("Terms 2: 0 at least");
        due("p at -65", trust(x, -65), 0);
        due("p at -99", trust(x, -99), 0);
        shows("Terms 2: cut both times");
        LipsVoice odd = with(far + "odds 16 7;");
        due("p at 6", trust(odd, 6), 16);
        due("p at 7", trust(odd, 7), 15);
        due("p at -2", trust(odd, -2), 16);
        due("p at -3", trust(odd, -3), 15);
        due("p at -5", trust(odd, -5), 15);
        due("p at -7", trust(odd, -7), 14);
        shows("Terms 2: half of W at least 1");
        LipsVoice least = with(far + "odds 16 1;");
        due("p at -1", trust(least, -1), 15);
        due("p at -15", trust(least, -15), 1);
        due("p at -17", trust(least, -17), 0);
        due("p at 16", trust(least, 16), 0);
        due("p at 99", trust(least, 99), 0);
        LipsVoice three = with(far + "odds 16 3;");
        due("p at -1, W 3", trust(three, -1), 15);
        LipsVoice two = with(far + "odds 16 2;");
        due("p at -1, W 2", trust(two, -1), 15);
        due("p at 1, W 2", trust(two, 1), 16);
        shows("Terms 2: W 99");
        LipsVoice wide = with(far);
        due("p at 98", trust(wide, 98), 16);
        due("p at 99", trust(wide, 99), 15);
        due("p at -48", trust(wide, -48), 16);
        due("p at -49", trust(wide, -49), 15);
        due("p at -99", trust(wide, -99), 14);
        shows("Terms 2: their own P");
        wide.becomes(0, 0, 0, 1);
        due("P 1 at 0", trust(wide, 0), 1);
        due("P 1 at 99", trust(wide, 99), 0);
        due("P 1 at -99", trust(wide, -99), 0);
        wide.becomes(0, 0, 0, 0);
        due("P 0 at 0", trust(wide, 0), 0);
    }

    // ---- laws

    private static void surer() {
        shows("Terms 2: SURER as FACE, if its greatest weight by the sum is more");
        LipsVoice x = with(PAIR + "voice 20 0;face 20 0;");
        x.person(0, -1, 16);
        x.person(0, 1, 16);
        shows("Terms 2: SURER of like ones as VOICE");
        due("alike: VOICE a", x.weight(SURER, 1, 0, 0, 0), 20);
        shows("Terms 2: SURER as FACE, if more");
        due("19 of 28 is more than 20 of 30", x.weight(SURER, 101, 0, 0, 0), 9);
        shows("Terms 2: SURER else as VOICE");
        due("21 of 32 is less than 20 of 30", x.weight(SURER, 201, 0, 0, 0), 20);
        shows("Terms 2: SURER by the odds, not by what is told of 1000");
        LipsVoice fine = with("sound a 0 0;sound b 1 0;voice 60 9;face 60 9;");
        fine.becomes(0, 30, 29, 16);
        due("170 of 339 and 171 of 341 are 501", fine.chance(VOICE, 0, 99, 0, 0), 501);
        due("170 of 339 and 171 of 341 are 501", fine.chance(FACE, 0, 99, 0, 0), 501);
        due("170 of 339 is more", fine.weight(SURER, 0, 99, 0, NONE), 339);
        shows("Terms 2: its greatest weight: a held SOUND's, though the FACE's is another");
        LipsVoice held = with(PAIR + "voice 11 0;face 20 0;hold b 9;");
        due("FACE a: 20 and 90 of 110, VOICE a: 11 and 9 of 20", held.weight(SURER, 0, 0, 0, 1), 90);
    }

    private static void oneAndOdds() {
        LipsVoice apart = with("sound a 0 0;sound b 30 0;sound c 60 0;voice 10 0;face 10 0;odds 16 1;");
        shows("Terms 2: ONE as VOICE, if J is 0");
        due("weight", apart.weight(ONE, 2, 0, 0, 0), 10);
        due("all", apart.weight(ONE, 2, 0, 0, NONE), 10);
        due("likely", apart.likely(ONE, 2, 0, 0), 0);
        shows("Terms 2: ONE is a(j) * f(j), if J is 1 at least");
        LipsVoice touch = with("sound a 0 0;sound b 9 0;sound c 18 0;voice 10 0;face 10 0;");
        due("VOICE 10, 1 and FACE 0, 1, 10", touch.weight(ONE, 2, 0, 0, NONE), 1);
        due("likely", touch.likely(ONE, 2, 0, 0), 1);
        shows("Terms 2: ODDS as VOICE, if all of these are 0");
        due("p 16, J 0", apart.weight(ODDS, 2, 0, 0, NONE), 10);
        shows("Terms 2: ODDS not as VOICE, if one isn't 0");
        due("p 15, J 0", apart.weight(ODDS, 2, 0, 1, NONE), 10 * 10);
        due("p 16, J 1", touch.weight(ODDS, 2, 0, 0, NONE), 16 * 3);
        shows("Terms 2: ODDS with P 0: F * a(j), 16 times");
        apart.becomes(0, 0, 0, 0);
        due("P 0", apart.weight(ODDS, 2, 0, 0, 0), 16 * 10 * 10);
        due("P 0", apart.weight(ODDS, 0, 0, 0, 0), 16 * 10 * 10);
        due("P 0", apart.weight(ODDS, 0, 0, 0, 1), 0);
        shows("Terms 2: n is how many SOUNDS");
        LipsVoice two = with("sound a 0 0;sound b 30 0;voice 10 0;face 10 0;odds 16 1;");
        due("n 2", two.weight(ODDS, 0, 0, 0, 0), 16 * 2 * 100);
        due("n 3", with("sound a 0 0;sound b 30 0;sound c 60 0;voice 10 0;face 10 0;").weight(ODDS, 0, 0, 0, 0), 16 * 3 * 100);
    }

    private static void learnt() {
        shows("Terms 2: LEARNT: 1 for what is said, 0 for others, if the couple is told");
        LipsVoice x = with(ROW10 + "learn ba ga ga; learn da da ba;");
        int[] all = {0, 0, 1};
        for (int j = 0; j < 3; j++) {
            due("weight " + j, x.weight(LEARNT, 2, 99, -99, j), all[j]);
        }
        due("all", x.weight(LEARNT, 2, 99, -99, NONE), 1);
        due("VOICE and FACE one", x.likely(LEARNT, 11, 0, 0), 0);
        shows("Terms 2: LEARNT else as ODDS: the couple by VOICE and FACE, not the other way");
        due("FACE and VOICE", x.weight(LEARNT, 20, 0, 50, NONE), x.weight(ODDS, 20, 0, 50, NONE));
        due("FACE and VOICE", x.weight(LEARNT, 20, 0, 50, NONE) > 1, true);
        shows("Terms 2: LEARNT as ODDS, that as VOICE");
        LipsVoice apart = with("sound a 0 0;sound b 30 0;voice 10 0;face 10 0;odds 16 1;learn b a a;");
        due("as VOICE", apart.weight(LEARNT, 1, 0, 0, NONE), 10);
        due("told", apart.weight(LEARNT, 10, 0, 0, NONE), 1);
    }

    private static void between() {
        shows("Terms 2: BETWEEN of like ones the least");
        LipsVoice tie = with("sound a 10 5;sound b 0 5;sound c 5 0;sound d 5 10;voice 20 0;face 20 0;");
        due("place (5, 5): all are 5 off", tie.likely(BETWEEN, 1, 0, 0), 0);
        due("weight of the others", tie.weight(BETWEEN, 1, 0, 0, 2), 0);
        due("all", tie.weight(BETWEEN, 1, 0, 0, NONE), 1);
        shows("Terms 2: BETWEEN (cut): (0 * 19 + 10 * 20) / 39 is 5");
        LipsVoice cut = with("sound a 0 0;sound b 10 0;voice 20 0;face 19 0;");
        due("5 is as far from both", cut.likely(BETWEEN, 1, 0, 0), 0);
        LipsVoice round = with("sound b 10 0;sound a 0 0;sound c 5 3;sound d 6 2;voice 20 0;face 19 0;");
        due("(5, 0): c is 3 off, d 3", round.likely(BETWEEN, 10, 0, 0), 2);
        shows("Terms 2: BETWEEN: VOICE's X times f and FACE's X times v: the wide span says less");
        LipsVoice sure = with("sound a 0 0;sound b 50 0;sound c 99 0;voice 1 0;face 60 0;");
        due("near the VOICE's", sure.likely(BETWEEN, 2, 0, 0), 0);
        sure.becomes(0, 30, -30, 16);
        due("v 31, f 30", sure.likely(BETWEEN, 2, 0, 0), 1);
        LipsVoice blind = with("sound a 0 0;sound b 50 0;sound c 99 0;voice 60 0;face 1 0;");
        due("near the FACE's", blind.likely(BETWEEN, 2, 0, 0), 2);
        shows("Terms 2: BETWEEN: and the VOICE's Y");
        LipsVoice high = with("sound a 0 0;sound b 0 40;sound c 1 40;sound d 1 0;voice 10 0;face 10 0;");
        due("Y 0", high.likely(BETWEEN, 2, 0, 0), 0);
        due("Y 40", high.likely(BETWEEN, 21, 0, 0), 1);
        due("Y 40, place 0", high.likely(BETWEEN, 13, 0, 0), 1);
        shows("Terms 2: BETWEEN of VOICE and FACE one: that SOUND");
        for (int j = 0; j < 4; j++) {
            due("both " + j, high.likely(BETWEEN, j * 11, 0, 0), j);
        }
    }

    private static void greatestWeights() {
        StringBuilder text = new StringBuilder("voice 60 9;face 60 9;odds 16 99;");
        for (int j = 0; j < 9; j++) {
            char name = (char) ('a' + j);
            text.append("sound ").append(name).append(' ').append(48 + j / 3).append(' ').append(48 + j % 3).append(';');
            text.append("hold ").append(name).append(" 9;");
        }
        LipsVoice x = with(text.toString());
        x.becomes(0, 30, 30, 16);
        shows("Promise 11: the greatest weights");
        long sum = 0;
        long both = 0;
        for (int j = 0; j < 9; j++) {
            long a = 9 * (171 - Math.abs(j / 3 - 1) - Math.abs(j % 3 - 1));
            long f = 171 - Math.abs(j / 3 - 1);
            due("ODDS " + j, x.weight(ODDS, 44, 99, 0, j), 16 * 9 * a * f);
            due("ONE " + j, x.weight(ONE, 44, 99, 0, j), a * f);
            sum += 16 * 9 * a * f;
            both += a * f;
        }
        due("the greatest sum by ODDS", x.weight(ODDS, 44, 99, 0, NONE), sum);
        due("the greatest sum by ONE", x.weight(ONE, 44, 99, 0, NONE), both);
        due("chance", x.chance(ODDS, 44, 99, 0, 4), 16L * 9 * 1539 * 171 * 1000 / sum);
        due("ONE and ODDS at P 16", x.parted(34, 44, 99, 0), 0);
        due("ODDS and LEARNT as it", x.parted(45, 44, 99, 50), 0);
        due("noticed at 16", x.noticed(44, 99, 0), 0);
        x.becomes(0, 30, 30, 0);
        due("noticed at 0", x.noticed(44, 99, 0), 1000);
        due("ONE and VOICE as ODDS at P 0", x.parted(4, 44, 99, 0), 0);
    }

    // ---- chances

    private static void chancesCut() {
        shows("Terms 2: CHANCE told of 1000 (cut)");
        LipsVoice x = with("sound a 0 0;sound b 1 0;voice 2 0;face 2 0;");
        due("2 of 3", x.chance(VOICE, 0, 0, 0, 0), 666);
        due("1 of 3", x.chance(VOICE, 0, 0, 0, 1), 333);
        shows("Terms 2: 0 and all");
        LipsVoice y = with("sound a 0 0;sound b 2 0;voice 2 0;face 2 0;");
        due("2 of 2", y.chance(VOICE, 0, 0, 0, 0), 1000);
        due("0 of 2", y.chance(VOICE, 0, 0, 0, 1), 0);
        shows("Promise 13: all answers of a KIND together, cut once");
        LipsVoice three = with("sound a 0 0;sound b 1 0;sound c 0 1;voice 2 0;face 2 0;");
        due("2 of 4", three.chance(VOICE, 0, 0, 0, 0), 500);
        LipsVoice sixths = with("sound a 0 0;sound b 2 0;sound c 0 2;sound d 1 1;voice 3 0;face 3 0;hold a 1;");
        due("1 of 6", sixths.chance(VOICE, 0, 0, 0, 1), 166);
        due("3 of 6 are 500, not three times 166", sixths.kind(VOICE, 0, 0, 0, 3), 500);
    }

    private static void noticedEdges() {
        shows("Terms 2: NOTICED 1000, if both are 0");
        LipsVoice x = with("sound a 0 0;sound b 30 0;voice 10 0;face 10 0;odds 16 1;");
        due("p 16, J 0", x.noticed(1, 0, 0), 1000);
        shows("Terms 2: NOTICED 1000, if J or p is 0 alone");
        due("p 15, J 0", x.noticed(1, 0, 1), 1000);
        due("p 0", x.noticed(0, 0, 16), 1000);
        shows("Terms 2: NOTICED 0, if p is 16");
        due("p 16", x.noticed(0, 0, 0), 0);
        shows("Terms 2: NOTICED cut");
        // (16 - 15) * 10 * 10 by 15 * 2 * 100 and that: 1 of 31
        due("p 15", x.noticed(0, 0, 1), 32);
        due("p 8: 8 of 24", x.noticed(0, 0, 8), 333);
        due("p 1: 15 of 17", x.noticed(0, 0, 15), 882);
        shows("Terms 2: NOTICED where both are alike");
        LipsVoice even = with("sound a 0 0;sound b 30 0;sound c 60 0;voice 10 0;face 10 0;odds 4 99;");
        // (16 - 4) * 10 * 10 and 4 * 3 * 100
        due("p 4", even.noticed(0, 0, 0), 500);
    }

    private static void likelyTies() {
        shows("Terms 2: LIKELY, of like ones the least");
        LipsVoice x = with("sound a 0 0;sound b 2 0;sound c 1 0;voice 9 0;face 9 0;");
        due("a 9 * 7, b 7 * 9, c 8 * 8", x.likely(ONE, 1, 0, 0), 2);
        LipsVoice y = with("sound a 0 0;sound b 2 0;voice 9 0;face 9 0;");
        due("9 * 7 and 7 * 9", y.likely(ONE, 1, 0, 0), 0);
        due("9 * 7 and 7 * 9", y.likely(ONE, 10, 0, 0), 0);
        LipsVoice last = with("sound a 50 50;sound b 0 1;sound c 0 0;voice 9 0;face 9 0;");
        due("FACE of two over one another", last.likely(FACE, 2, 0, 0), 1);
        due("the last may be", last.likely(VOICE, 20, 0, 0), 2);
    }

    private static void kinds() {
        shows("Terms 2: KINDS: ALIKE, if VOICE and FACE are one SOUND and it is said; THIRD else");
        LipsVoice x = with("sound a 0 0;sound b 10 0;sound c 0 10;voice 20 0;face 20 0;");
        due("ALIKE", x.kind(VOICE, 0, 0, 0, 0), 500);
        due("VOICE's", x.kind(VOICE, 0, 0, 0, 1), 0);
        due("FACE's", x.kind(VOICE, 0, 0, 0, 2), 0);
        due("THIRD", x.kind(VOICE, 0, 0, 0, 3), 500);
        shows("Terms 2: KINDS: VOICE's, FACE's, if they are unlike");
        due("ALIKE", x.kind(VOICE, 1, 0, 0, 0), 0);
        due("VOICE's", x.kind(VOICE, 1, 0, 0, 1), 500);
        due("FACE's", x.kind(VOICE, 1, 0, 0, 2), 250);
        due("THIRD", x.kind(VOICE, 1, 0, 0, 3), 250);
        shows("Promise 18: its KIND");
        int[][] all = {{0, 0, 0}, {0, 1, 3}, {1, 0, 1}, {1, 1, 2}, {1, 2, 3}, {22, 2, 0}, {22, 100, 3}, {21, 102, 1}, {21, 101, 2}};
        for (int k = 0; k < all.length; k++) {
            x.answer(all[k][0], 0, 0, all[k][1]);
            due("kind of " + all[k][0] + " said " + all[k][1], x.of(k, 5), all[k][2]);
        }
    }

    // ---- what trials tell together

    private static void pairs() {
        LipsVoice x = with(ROW10);
        shows("Promise 24: by VOICES, then FACES");
        int[] order = {1, 2, 10, 12, 20, 21};
        for (int k = 0; k < order.length; k++) {
            due("pair " + k, x.pairs(10, 0, 0, 0, k), order[k]);
        }
        shows("Promise 24: NONE if there are none such: k beyond the last, or below NONE");
        due("k 6", x.pairs(10, 0, 0, 0, 6), NONE);
        due("k at the greatest", x.pairs(10, 0, 0, 0, Integer.MAX_VALUE), NONE);
        due("k -2", x.pairs(10, 0, 0, 0, -2), NONE);
        due("k at the least", x.pairs(10, 0, 0, 0, Integer.MIN_VALUE), NONE);
        shows("Terms 4: unlike: none is ALIKE");
        for (int law = 0; law < 7; law++) {
            due("how many by " + law, x.pairs(law, 0, 0, 0, NONE), 0);
            due("first by " + law, x.pairs(law, 0, 0, 0, 0), NONE);
        }
        shows("Terms 4: unlike ones alone are of KIND THIRD, though VOICE and FACE one may be told as another");
        LipsVoice learn = with(ROW10 + "learn ba ba da;");
        due("thirds by LEARNT", learn.pairs(35, 0, 0, 0, NONE), 2);
        shows("Promise 24: kinds KIND * 10 and LAW: others are NONE");
        for (int kinds : new int[] {7, 8, 9, 17, 37, 39, 40, 46, 100, -1, -10, Integer.MIN_VALUE, Integer.MAX_VALUE}) {
            due("kinds " + kinds, x.pairs(kinds, 0, 0, 0, NONE), NONE);
        }
        due("kinds 36", x.pairs(36, 0, 0, 0, NONE), 2);
        shows("Promise 24: NONE without such a PERSON, SETTING, LATE");
        due("person 1", x.pairs(10, 1, 0, 0, NONE), NONE);
        due("person -1", x.pairs(10, -1, 0, 0, NONE), NONE);
        due("person at the greatest", x.pairs(10, Integer.MAX_VALUE, 0, 0, NONE), NONE);
        due("setting 99", x.pairs(10, 0, 99, 0, NONE), 6);
        due("setting 100", x.pairs(10, 0, 100, 0, NONE), NONE);
        due("setting -1", x.pairs(10, 0, -1, 0, NONE), NONE);
        due("late 99", x.pairs(10, 0, 0, 99, NONE), 6);
        due("late -99", x.pairs(10, 0, 0, -99, NONE), 6);
        due("late 100", x.pairs(10, 0, 0, 100, NONE), NONE);
        due("late -100", x.pairs(10, 0, 0, -100, NONE), NONE);
        due("without a scene", new LipsVoice().pairs(10, 0, 0, 0, NONE), NONE);
        shows("Promise 24: of a PERSON, whichever");
        x.person(0, 0, 0);
        due("thirds by ODDS of 0", x.pairs(34, 0, 0, 0, NONE), 2);
        due("thirds by ODDS of 1", x.pairs(34, 1, 0, 0, NONE), 0);
        due("VOICE's by ODDS of 1", x.pairs(14, 1, 0, 0, 5), 21);
        due("thirds by ODDS of 0, late", x.pairs(34, 0, 0, -99, NONE), 0);
        due("thirds by ODDS of 0, noise 1", x.pairs(34, 0, 10, 0, 0), 2);
        due("thirds by ODDS of 0, noise 9", x.pairs(34, 0, 90, 0, 0), NONE);
        shows("Promise 24: all 72 couples of 9 SOUNDS");
        StringBuilder nine = new StringBuilder("voice 60 0;face 60 0;");
        for (int j = 0; j < 9; j++) {
            nine.append("sound ").append((char) ('a' + j)).append(' ').append(j * 11).append(" 0;");
        }
        LipsVoice all = with(nine.toString());
        due("how many", all.pairs(10, 0, 0, 0, NONE), 72);
        due("first", all.pairs(10, 0, 0, 0, 0), 1);
        due("the 8th VOICE's last", all.pairs(10, 0, 0, 0, 63), 78);
        due("last", all.pairs(10, 0, 0, 0, 71), 87);
        due("beyond", all.pairs(10, 0, 0, 0, 72), NONE);
    }

    private static void humps() {
        shows("Promise 25: LATES above 0 (side 0), below 0 (1); NONE for others");
        LipsVoice x = with(ROW + "odds 16 10;");
        // THIRD is 513 at p 13, 454 at p 12: within to 39, and to 4 * 5 - 1 below
        due("above", x.hump(2, 0, 0), 39);
        due("below", x.hump(2, 0, 1), 19);
        for (int side : new int[] {-1, 2, 3, Integer.MIN_VALUE, Integer.MAX_VALUE}) {
            due("side " + side, x.hump(2, 0, side), NONE);
        }
        shows("Terms 4: HUMP of a PERSON, whichever");
        x.person(0, 0, 15);
        x.person(0, 0, 0);
        // THIRD is 739 at p 15, 379 at p 10, 353 at p 9; 250 at p 0
        due("P 15", x.hump(102, 0, 0), 59);
        due("P 15, below", x.hump(102, 0, 1), 29);
        due("P 0", x.hump(202, 0, 0), 99);
        LipsVoice first = with(ROW + "odds 16 1;");
        first.person(0, 0, 0);
        due("ba and ba at P 16", first.hump(0, 0, 0), first.kind(ODDS, 0, 0, 0, 3) == 0 ? NONE : 99);
        due("ba and ga at P 16", first.hump(2, 0, 0), 3);
        due("ba and ga at P 0", first.hump(102, 0, 0), 99);
        due("ba and ba at P 0", first.hump(100, 0, 0), 99);
        shows("Terms 4: as far as 99");
        LipsVoice wide = with(ROW + "odds 16 99;");
        due("above", wide.hump(2, 0, 0), 99);
        due("below", wide.hump(2, 0, 1), 99);
        shows("Terms 4: 99 itself may be the first that is out");
        LipsVoice last = with("sound ba 10 0;sound da 30 0;sound ga 50 0;voice 21 0;face 21 0;odds 16 99;");
        due("above", last.hump(2, 0, 0), 98);
        due("below: half of 99 is 49", last.hump(2, 0, 1), 48);
        shows("Terms 4: none of one sign");
        LipsVoice sharp = with("sound ba 10 0;sound da 30 0;sound ga 50 0;voice 21 0;face 21 0;odds 16 1;");
        due("above", sharp.hump(2, 0, 0), 0);
        due("below", sharp.hump(2, 0, 1), 0);
        shows("Terms 4: NONE if at 0 it is 0");
        LipsVoice none = with(PAIR + "voice 20 0;face 20 0;");
        due("above", none.hump(1, 0, 0), NONE);
        due("below", none.hump(1, 0, 1), NONE);
        due("0 of 1000, though the weight isn't 0", tiny().hump(2, 0, 0), NONE);
        shows("Terms 4: one that grows with LATE has no end");
        // VOICE 21, 2, 0 and FACE 21, 1, 0: THIRD is 2 of 443 at p 16, 2 of 23 at p 0
        LipsVoice grows = with("sound ba 10 0;sound da 30 0;sound ga 50 0;voice 21 0;face 21 0;odds 16 1;hold da 2;");
        due("at 0", grows.kind(ODDS, 0, 0, 0, 3), 4);
        due("at 16", grows.kind(ODDS, 0, 0, 16, 3), 86);
        due("above", grows.hump(0, 0, 0), 99);
        due("below", grows.hump(0, 0, 1), 99);
        shows("Terms 4: at least half: an even half is in, one less is out");
        LipsVoice even = with("sound ba 10 0; sound da 31 3; sound ga 52 0; voice 33 0; face 24 0; odds 14 1;");
        due("238 of 476", even.hump(2, 0, 0), 9);
        due("238 of 476, below", even.hump(2, 0, 1), 9);
        LipsVoice odd = with("sound ba 10 0; sound da 14 1; sound ga 18 0; voice 9 0; face 7 0; odds 16 1;");
        due("315 of 631", odd.hump(2, 0, 0), 12);
        due("315 of 631, below", odd.hump(2, 0, 1), 12);
        shows("Promise 25: NONE if the TRIAL can't be");
        due("who 3", x.hump(3, 0, 0), NONE);
        due("who 300", x.hump(300, 0, 0), NONE);
        due("who -1", x.hump(-1, 0, 1), NONE);
        due("setting 100", x.hump(2, 100, 0), NONE);
        due("setting -1", x.hump(2, -1, 1), NONE);
        due("without a scene", new LipsVoice().hump(0, 0, 0), NONE);
    }

    /** THIRD of VOICE a and FACE c is less than 1 of 1000 at LATE 0. */
    private static LipsVoice tiny() {
        LipsVoice x = with("sound a 0 0;sound b 59 0;sound c 1 0;voice 60 0;face 60 0;odds 16 99;hold a 9;hold c 9;");
        due("its weight", x.weight(ODDS, 2, 0, 0, 1) > 0, true);
        due("of 1000", x.kind(ODDS, 2, 0, 0, 3), 0);
        return x;
    }

    private static void right() {
        shows("Terms 4: RIGHT is the sum of CHANCES, each cut");
        LipsVoice x = with("sound a 0 0;sound b 1 0;voice 2 0;face 2 0;");
        due("666 and 666", x.right(VOICE, 0, 0), 1332);
        due("all", x.right(BETWEEN, 0, 0), 2000);
        shows("Promise 26: NONE if there are none such");
        due("person 1", x.right(VOICE, 1, 0), NONE);
        due("person -1", x.right(VOICE, -1, 0), NONE);
        due("setting 99", x.right(VOICE, 0, 99), 1332);
        due("setting 100", x.right(VOICE, 0, 100), NONE);
        due("setting -1", x.right(VOICE, 0, -1), NONE);
        due("without a scene", new LipsVoice().right(VOICE, 0, 0), NONE);
        shows("Terms 4: RIGHT is of LATE 0");
        LipsVoice y = with(ROW10);
        due("by ODDS at P 16", y.right(ODDS, 0, 0), y.right(ONE, 0, 0));
        LipsVoice sharp = with(ROW + "odds 16 1;");
        due("by ODDS at P 16, W 1", sharp.right(ODDS, 0, 0), sharp.right(ONE, 0, 0));
        due("by ODDS is more than by VOICE", sharp.right(ODDS, 0, 0) > sharp.right(VOICE, 0, 0), true);
        shows("Terms 4: RIGHT of a PERSON, whichever");
        sharp.person(0, 0, 0);
        due("P 0: as VOICE", sharp.right(ODDS, 1, 0), sharp.right(VOICE, 1, 0));
    }

    private static void worth() {
        LipsVoice x = with(ROW);
        shows("Terms 4: WORTH 0, if VOICE at that NOISE is as often RIGHT");
        due("VOICE itself at 0", x.worth(VOICE, 0, 0), 0);
        due("VOICE itself at 9", x.worth(VOICE, 0, 99), 0);
        shows("Terms 4: WORTH NOISE, if it takes NOISE 0");
        // FACE with f 25 is 2238, VOICE with v 30 is 2100: never; by f 30, 2100
        x.person(0, 5, 16);
        due("FACE as VOICE at 0", x.right(FACE, 1, 0), 2100);
        due("at noise 9", x.worth(FACE, 1, 90), 9);
        due("at noise 1", x.worth(FACE, 1, 10), 1);
        due("at noise 0", x.worth(FACE, 1, 0), 0);
        shows("Terms 4: WORTH of a step, and with DARK");
        // VOICE with v 35, 40, 45 is 1938, 1832, 1670; FACE with f 35 1938
        due("FACE at dark 2", x.right(FACE, 0, 2), 1938);
        due("VOICE at noise 1", x.right(VOICE, 0, 10), 1938);
        due("from noise 2", x.worth(FACE, 0, 22), 1);
        due("from noise 9", x.worth(FACE, 0, 92), 8);
        due("from noise 0", x.worth(FACE, 0, 2), 0);
        shows("Terms 4: WORTH NONE, if there is none");
        due("FACE 2238", x.worth(FACE, 0, 90), NONE);
        due("at noise 0", x.worth(FACE, 0, 0), NONE);
        due("BETWEEN", x.worth(BETWEEN, 0, 50), NONE);
        shows("Terms 4: the greatest NOISE, no more than it");
        due("more than enough at noise 0", x.worth(FACE, 0, 9), 0);
        shows("Promise 27: NONE if there are none such");
        due("person 2", x.worth(VOICE, 2, 0), NONE);
        due("person -1", x.worth(VOICE, -1, 0), NONE);
        due("setting 100", x.worth(VOICE, 0, 100), NONE);
        due("setting -1", x.worth(VOICE, 0, -1), NONE);
        due("without a scene", new LipsVoice().worth(VOICE, 0, 0), NONE);
        shows("Terms 4: WORTH of 0, though VOICE doesn't change with NOISE");
        LipsVoice flat = with("sound a 0 0;sound b 10 0;voice 20 0;face 30 0;");
        due("at noise 7", flat.worth(FACE, 0, 70), 0);
    }

    private static void parted() {
        LipsVoice x = with(ROW10);
        shows("Terms 4: PARTED 0 of one LAW and itself");
        for (int law = 0; law < 7; law++) {
            due("by " + law, x.parted(law * 11, 2, 0, 35), 0);
        }
        shows("Terms 4: PARTED 1000, if nothing is both");
        due("VOICE da: 30 of 50 in the middle; BETWEEN da", x.parted(6, 11, 0, 0), 400);
        LipsVoice apart = with("sound a 0 0;sound b 30 0;voice 10 0;face 10 0;odds 16 1;");
        due("VOICE and FACE", apart.parted(1, 1, 0, 0), 1000);
        shows("Terms 4: half the sum, cut once");
        // 2/3, 1/3 by VOICE; 4/5, 1/5 by ONE: 2/15 apart, told 133; the chances of 1000 are 134 and 133 apart
        LipsVoice y = with("sound a 0 0;sound b 1 0;voice 2 0;face 2 0;");
        due("133.3", y.parted(3, 0, 0, 0), 133);
        // VOICE 3, 2, 1 of 6 and ONE 9, 4, 1 of 14: 1/7 apart
        LipsVoice z = with("sound a 0 0;sound b 1 0;sound c 2 0;voice 3 0;face 3 0;");
        due("142.8", z.parted(3, 0, 0, 0), 142);
        shows("Promise 28: laws the one * 10 and the other");
        // VOICE 30, 10, 0 of 40; FACE 0, 5, 25 of 30; BETWEEN da
        int[][] pairsOfLaws = {{1, 833}, {10, 833}, {6, 750}, {60, 750}, {16, 833}, {61, 833}, {3, 750}, {30, 750}, {2, 833}, {20, 833}};
        for (int[] one : pairsOfLaws) {
            due("laws " + one[0], x.parted(one[0], 2, 0, 0), one[1]);
        }
        shows("Promise 28: laws the one * 10 and the other: NONE for others");
        due("66", x.parted(66, 2, 0, 0), 0);
        due("60", x.parted(60, 2, 0, 0) > NONE, true);
        for (int laws : new int[] {7, 9, 17, 67, 69, 70, 76, 77, 100, -1, -10, Integer.MIN_VALUE, Integer.MAX_VALUE}) {
            due("laws " + laws, x.parted(laws, 2, 0, 0), NONE);
            shows("Promise 29: laws likewise");
            due("next " + laws, x.next(laws, 0, 0, 0), NONE);
            due("next " + laws, x.next(laws, 0, 0, 1), NONE);
        }
    }

    private static void next() {
        LipsVoice x = with(ROW10);
        shows("Terms 4: NEXT, of like ones the least VOICE, then FACE, then NOISE");
        due("all alike", x.next(22, 0, 0, 0), 0);
        due("all alike", x.next(22, 0, 0, 1), 0);
        // ONE and VOICE: ba with ga and ga with ba are 750 both at noise 0
        due("the least VOICE", x.next(30, 0, 0, 0), 20);
        due("how much", x.next(30, 0, 0, 1), 750);
        shows("Terms 4: NEXT, of like ones the least NOISE");
        LipsVoice flat = with("sound a 0 0;sound b 30 0;voice 10 0;face 10 0;");
        due("VOICE and FACE of a and b", flat.next(1, 0, 0, 0), 10);
        due("how much", flat.next(1, 0, 0, 1), 1000);
        shows("Terms 4: NEXT, the least FACE");
        LipsVoice three = with("sound a 0 0;sound b 30 0;sound c 60 0;voice 10 0;face 10 0;");
        due("a with b before a with c", three.next(1, 0, 0, 0), 10);
        shows("Terms 4: NEXT, all NOISES: the greatest may be the last");
        // VOICE a is 20 alone at noise 0, and 101 and 71 at noise 9; BETWEEN is a
        LipsVoice noisy = with("sound a 0 0;sound b 0 30;voice 20 9;face 10 0;");
        due("VOICE and BETWEEN", noisy.next(6, 0, 0, 0), 9);
        due("how much: 71 of 172", noisy.next(6, 0, 0, 1), 412);
        shows("Terms 4: NEXT by what PARTED is told as: 59 of 119 and 60 of 121 are like ones");
        LipsVoice fine = with("sound a 0 0;sound b 0 1;voice 60 1;face 10 0;");
        due("at noise 0", fine.parted(6, 0, 0, 0), 495);
        due("at noise 1", fine.parted(6, 0, 10, 0), 495);
        due("at noise 9", fine.parted(6, 0, 90, 0), 496);
        due("the first at 496", fine.next(6, 0, 0, 0), 3);
        shows("Terms 4: NEXT of a PERSON (LATE 0, DARK as told)");
        LipsVoice y = with(ROW + "odds 16 1;");
        y.person(0, 0, 0);
        y.person(10, -10, 15);
        for (int laws : new int[] {30, 41, 14, 52, 26, 63, 45}) {
            for (int dark = 0; dark < 10; dark += 3) {
                mostParted(y, laws, laws % 3, dark);
            }
        }
        for (int laws : new int[] {40, 4, 43, 54}) {
            for (int person = 0; person < 3; person++) {
                mostParted(y, laws, person, 0);
            }
        }
        due("LATE 0: ODDS at P 16 are ONE", y.next(43, 0, 0, 1), 0);
        // VOICE ga is 0, 10, 30 of 40, FACE ba 225, 5, 0 of 230; VOICE ba 270, 10, 0, FACE ga 0, 5, 25: 978 and 964
        LipsVoice last = with(ROW + "hold ba 9;");
        due("the last VOICE", last.next(1, 0, 0, 0), 200);
        due("how much", last.next(1, 0, 0, 1), 978);
        due("how much of the first", last.parted(1, 2, 0, 0), 964);
        mostParted(last, 1, 0, 0);
        // c is sure by VOICE, and between c and a there is b
        due("the last VOICE", with("sound a 0 0;sound b 5 0;sound c 90 0;voice 9 0;face 9 0;").next(6, 0, 0, 0), 200);
        shows("Terms 4: NEXT of 9 SOUNDS");
        StringBuilder nine = new StringBuilder("voice 9 1;face 30 1;");
        for (int j = 0; j < 9; j++) {
            nine.append("sound ").append((char) ('a' + j)).append(' ').append(j * j).append(" 0;");
        }
        LipsVoice all = with(nine.toString());
        due("VOICE and BETWEEN", all.next(6, 0, 0, 1), 1000);
        due("VOICE and FACE", all.next(1, 0, 0, 1), 1000);
        shows("Promise 29: DARK as told, 0 .. 9");
        due("dark 9", x.next(30, 0, 9, 0) > NONE, true);
        due("dark 10", x.next(30, 0, 10, 0), NONE);
        due("dark -1", x.next(30, 0, -1, 0), NONE);
        due("dark at the greatest", x.next(30, 0, Integer.MAX_VALUE, 0), NONE);
        shows("Promise 29: NONE for others");
        due("what 2", x.next(30, 0, 0, 2), NONE);
        due("what -1", x.next(30, 0, 0, -1), NONE);
        due("person 1", x.next(30, 1, 0, 0), NONE);
        due("person -1", x.next(30, -1, 0, 0), NONE);
        due("without a scene", new LipsVoice().next(30, 0, 0, 0), NONE);
        due("without a scene", new LipsVoice().next(30, 0, 0, 1), NONE);
    }

    /** NEXT by asking all of its trials, one behind the other, of objects that are made alike. */
    private static void mostParted(LipsVoice x, int laws, int person, int dark) {
        int most = NONE;
        int found = NONE;
        for (int couple = 0; couple < 33; couple++) {
            for (int noise = 0; noise < 10 && couple % 10 < 3; noise++) {
                int apart = x.parted(laws, person * 100 + couple, noise * 10 + dark, 0);
                if (apart > most) {
                    most = apart;
                    found = couple * 10 + noise;
                }
            }
        }
        due("next " + laws + " of " + person + " at dark " + dark, x.next(laws, person, dark, 0), found);
        due("how much " + laws + " of " + person + " at dark " + dark, x.next(laws, person, dark, 1), most);
    }

    private static void knowing() {
        LipsVoice x = with(ROW10 + "learn ba ga da;");
        shows("Terms 4: KNOWING does nothing, if LIKELY is the same with P 0");
        due("ODDS, da and ba", x.knowing(ODDS, 2, 0, 0), 0);
        due("late enough", x.knowing(ODDS, 2, 0, 99), 1);
        due("p 0 already", x.knowing(ODDS, 2, 0, -99), 1);
        due("told by learn", x.knowing(LEARNT, 2, 0, 0), 1);
        due("LEARNT as ODDS", x.knowing(LEARNT, 20, 0, 0), 0);
        for (int law : new int[] {VOICE, FACE, SURER, ONE, BETWEEN}) {
            due("law " + law, x.knowing(law, 2, 0, 0), 1);
        }
        due("VOICE and FACE one", x.knowing(ODDS, 11, 0, 0), 1);
        shows("Terms 4: with P 0, not 1");
        // VOICE a is 3 * 30 and 9 * 10, FACE b 0 and 20: a at P 0, 90 * 15 and 90 * 17 at P 1
        LipsVoice one = with("sound a 0 0;sound b 20 0;hold a 3;hold b 9;voice 30 0;face 20 0;odds 1 99;");
        due("P 1", one.likely(ODDS, 1, 0, 0), 1);
        due("P 1", one.knowing(ODDS, 1, 0, 0), 0);
        due("P 0", one.likely(ODDS, 1, 0, 99), 0);
        due("P 0", one.knowing(ODDS, 1, 0, 99), 1);
        shows("Promise 30: it changes nothing");
        due("P", x.who(0, 2), 16);
        due("likely", x.likely(ODDS, 2, 0, 0), 1);
    }

    // ---- rules on trials

    private static void holds(String condition, boolean so) {
        LipsVoice x = withRules(ROW10, "call seen if " + condition + ";");
        due(condition, x.called(2, 37, -10, 1), so ? 0 : NONE);
    }

    private static void calledNumbers() {
        LipsVoice x = withRules(ROW10, "call heard if late=99;call seen if 1=1;");
        shows("Promise 31: how (what 0), by which LINE (1); NONE for others");
        due("what 0", x.called(0, 0, 99, 0), 2);
        due("what 1", x.called(0, 0, 99, 1), 0);
        due("what 2", x.called(0, 0, 99, 2), NONE);
        due("what -1", x.called(0, 0, 99, -1), NONE);
        due("what at the least", x.called(0, 0, 99, Integer.MIN_VALUE), NONE);
        shows("Terms 5: late without its sign");
        due("late -99", x.called(0, 0, -99, 1), 0);
        due("late 98", x.called(0, 0, 98, 1), 1);
        shows("Terms 5: by the first LINE that holds");
        due("late 99", x.called(0, 0, 99, 1), 0);
        shows("Promise 31: NONE without RULES");
        due("no rules", with(ROW10).called(0, 0, 0, 0), NONE);
        due("no rules", with(ROW10).called(0, 0, 0, 1), NONE);
        shows("Promise 31: NONE if by none");
        holds("1=2", false);
        holds("2<2", false);
        holds("1<2", true);
        holds("2=2", true);
        shows("Terms 5: noise and dark of the SETTING");
        holds("noise=3 and dark=7 and late=10", true);
        shows("Terms 5: the words at their least and greatest");
        LipsVoice most = withRules(ROW10, "call fused if voice=1000 and face=0 and third=0 and noticed=1000;call apart if 1=1;");
        most.becomes(0, -30, -30, 0);
        due("v 1, f 1, P 0", most.called(2, 0, 0, 1), 0);
        most.becomes(0, 0, 0, 0);
        due("v 30, f 25, P 0", most.called(2, 0, 0, 1), 1);
        shows("Terms 5: third, noticed, voice, face by ODDS, each for itself");
        LipsVoice each = withRules(ROW10, "call fused if third=513;call apart if noticed=225;call heard if voice=461;call seen if face=25;call seen if 1=1;");
        each.becomes(0, 0, 0, 13);
        // p 13: THIRD 2850 of 5550, NOTICED 3600 of 5550
        due("third", each.kind(ODDS, 2, 0, 0, 3), 513);
        due("by third", each.called(2, 0, 0, 1), 0);
        each.becomes(0, 0, 0, 0);
        due("by none of the first", each.called(2, 0, 0, 1), 4);
        wordsAre(each);
        shows("Terms 5: that the VOICE's SOUND is said; the FACE's: of one SOUND both");
        LipsVoice one = withRules(ROW10, "call fused if voice=face and 0<voice;call apart if 1=1;");
        due("ba and ba", one.called(0, 0, 0, 1), 0);
        due("ba and ga", one.called(2, 0, 99, 1), 1);
    }

    private static void wordsAre(LipsVoice x) {
        int[][] trials = {{2, 0, 0}, {1, 35, 20}, {12, 90, -20}, {21, 9, 99}, {11, 44, 5}};
        for (int[] t : trials) {
            for (int p = 3; p <= 16; p += 13) {
                x.becomes(0, 2, -3, p);
                String rules = "call seen if third=" + x.kind(ODDS, t[0], t[1], t[2], 3) + " and noticed=" + x.noticed(t[0], t[1], t[2]) + " and voice="
                    + x.chance(ODDS, t[0], t[1], t[2], t[0] / 10) + " and face=" + x.chance(ODDS, t[0], t[1], t[2], t[0] % 10) + ";";
                tell(x, rules);
                due(rules, x.rules(), 1);
                due(rules, x.called(t[0], t[1], t[2], 0), 3);
            }
        }
    }

    private static void calledBounds() {
        shows("Terms 5: each product is brought to -1000000 .. 1000000");
        holds("1000*1000=9999*9999", true);
        holds("1000*1000-1<1000*1000", true);
        holds("999*1001<1000*1000", true);
        holds("9999*9999=9999*101", true);
        holds("9999*100<9999*9999", true);
        holds("(0-9999)*9999=0-9999*101", true);
        holds("(0-9999)*9999<0-9999*100", true);
        holds("(0-9999)*(0-9999)=1000*1000", true);
        holds("9999*9999*9999*9999*9999*9999=1000*1000", true);
        holds("9999*9999*9999*9999*9999*9999*0=0", true);
        shows("Terms 5: each sum is brought to -1000000 .. 1000000");
        holds("1000*1000+1=1000*1000", true);
        holds("1000*1000+9999*9999=1000*1000", true);
        holds("0-1000*1000-1=0-1000*1000", true);
        holds("0-1000*1000-9999*9999=0-1000*1000", true);
        holds("999*1001+1=1000*1000", true);
        holds("999*1001+2=1000*1000", true);
        holds("999*1001=1000*1000", false);
        holds("(1000*1000+5)-5=1000*1000-5", true);
        shows("Terms 5: a sum below 0 may be");
        holds("0-1<0", true);
        holds("0-1=0", false);
        holds("noise-dark=0-4", true);
        shows("Terms 5: E: T, any number of + T or - T, from left to right; T: F, any number of * F");
        holds("10-3-2=5", true);
        holds("10-(3-2)=9", true);
        holds("2+3*4=14", true);
        holds("(2+3)*4=20", true);
        holds("2*3+4*5-6*7=0-16", true);
        shows("Terms 5: a number 0 .. 9999");
        holds("9999=10*1000-1", true);
        holds("0=noise-3", true);
        shows("Terms 5: 8 brackets one in another are reckoned");
        holds("((((((((1+1)*2)*2)*2)*2)*2)*2)*2)=256", true);
        holds("1-(1-(1-(1-(1-(1-(1-(1-(5)))))))) = 5", true);
    }
}
