/** Terms 2, 3 and 6, promises 1, 8 to 10, 16 to 23 and 32 to 35: each sentence on people, answers, lots and images that names an edge. */
public final class SheetEdgeTest extends Checks {
    private static final int ALL = NONE;
    private static final int VOICE = 0;
    private static final int FACE = 1;
    private static final int ODDS = 4;
    private static final int LEARNT = 5;
    private static final int BETWEEN = 6;
    private static final String PAIR = "sound a 10 0;sound b 20 0;";

    public static void main(String[] args) {
        newObject();
        personNought();
        peopleBounds();
        mostPeople();
        changedPeople();
        answers();
        mostAnswers();
        takenBack();
        toldAnswers();
        fitsWithoutAnswers();
        fitsMore();
        best();
        fitsOfOne();
        ownSpans();
        ownSpanTies();
        ownOdds();
        shares();
        foretold();
        drawBounds();
        drawnAtTheEdges();
        justNoticed();
        drawnMost();
        images();
        counts();
        end("SheetEdgeTest");
    }

    private static void newObject() {
        shows("Promise 1: no SCENE, no RULES");
        LipsVoice x = new LipsVoice();
        for (int what = 0; what < 8; what++) {
            due("count(" + what + ")", x.count(what), 0);
        }
        due("person", x.person(0, 0, 0), NONE);
        due("who", x.who(0, 0), VOID);
        due("best", x.best(ALL), NONE);
        due("image", x.image(0), false);
        due("back", x.back(0), false);
        due("scene", x.scene(), NONE);
        due("rules", x.rules(), NONE);
        due("fault(0)", x.fault(0), 0);
        due("fault(1)", x.fault(1), 0);
        shows("Promise 1: another object has its own");
        LipsVoice y = with(ROW);
        due("count of the one", x.count(0), 0);
        due("count of the other", y.count(0), 3);
    }

    // ---- people

    private static void personNought() {
        shows("Terms 2: PERSON 0 is there with a SCENE: no changes, P of it, LAND 0");
        int[][] odds = {{0, 1}, {7, 50}, {16, 99}};
        for (int[] one : odds) {
            LipsVoice x = with(ROW + "odds " + one[0] + " " + one[1] + ";");
            due("count(2)", x.count(2), 1);
            int[] all = {0, 0, one[0], 0};
            for (int what = 0; what < 4; what++) {
                due("who(0, " + what + ")", x.who(0, what), all[what]);
            }
        }
        due("P without odds", with(ROW).who(0, 2), 16);
        shows("Promise 9: VOID for others, or if there is none such");
        LipsVoice x = with(ROW);
        for (int other : new int[] {-1, 1, 10, Integer.MIN_VALUE, Integer.MAX_VALUE}) {
            due("who(" + other + ", 0)", x.who(other, 0), VOID);
        }
        for (int other : new int[] {-1, 4, 5, Integer.MIN_VALUE, Integer.MAX_VALUE}) {
            due("who(0, " + other + ")", x.who(0, other), VOID);
        }
        due("without a scene", new LipsVoice().who(0, 0), VOID);
    }

    private static void peopleBounds() {
        shows("Terms 2: changes -30 .. 30, P 0 .. 16, LAND 0 .. 3");
        LipsVoice x = with(ROW);
        int[][] can = {{-30, 30, 0}, {30, -30, 16}, {0, 0, 300}, {0, 0, 316}, {1, -1, 116}, {0, 0, 200}};
        for (int k = 0; k < can.length; k++) {
            due("person", x.person(can[k][0], can[k][1], can[k][2]), k + 1);
            int[] all = {can[k][0], can[k][1], can[k][2] % 100, can[k][2] / 100};
            for (int what = 0; what < 4; what++) {
                due("who(" + (k + 1) + ", " + what + ")", x.who(k + 1, what), all[what]);
            }
        }
        shows("Promise 8: NONE if it can't be");
        int[][] wrong = {{-31, 0, 0}, {31, 0, 0}, {0, -31, 0}, {0, 31, 0}, {0, 0, 17}, {0, 0, 99}, {0, 0, 117}, {0, 0, 317}, {0, 0, 399},
            {0, 0, 400}, {0, 0, 416}, {0, 0, -1}, {0, 0, -84}, {0, 0, -100}, {Integer.MIN_VALUE, 0, 0}, {0, Integer.MAX_VALUE, 0},
            {0, 0, Integer.MIN_VALUE}, {0, 0, Integer.MAX_VALUE}};
        for (int[] w : wrong) {
            due("person(" + w[0] + ", " + w[1] + ", " + w[2] + ")", x.person(w[0], w[1], w[2]), NONE);
        }
        due("count(2)", x.count(2), 7);
        shows("Promise 8: NONE without a SCENE");
        due("person", new LipsVoice().person(0, 0, 0), NONE);
    }

    private static void mostPeople() {
        shows("Terms 2: PEOPLE (at most 10, numbers as they come)");
        LipsVoice x = with(ROW);
        for (int k = 1; k <= 9; k++) {
            due("person", x.person(k, -k, 100 + k), k);
        }
        shows("Promise 8: NONE if 10 are");
        due("an 11th", x.person(0, 0, 0), NONE);
        due("count(2)", x.count(2), 10);
        for (int k = 1; k <= 9; k++) {
            due("who(" + k + ", 0)", x.who(k, 0), k);
            due("who(" + k + ", 1)", x.who(k, 1), -k);
            due("who(" + k + ", 2)", x.who(k, 2), k);
        }
        due("who(10, 0)", x.who(10, 0), VOID);
        due("the last one's trial", x.weight(VOICE, 900, 0, 0, 0), 39);
        due("an 11th one's trial", x.weight(VOICE, 1000, 0, 0, 0), NONE);
        due("becomes", x.becomes(9, 0, 0, 0), true);
        due("becomes", x.becomes(10, 0, 0, 0), false);
        shows("Promise 34: gone back to fewer, there is place again");
        LipsVoice y = with(ROW);
        y.image(0);
        for (int k = 1; k <= 9; k++) {
            y.person(0, 0, 0);
        }
        due("back", y.back(0), true);
        due("person", y.person(5, 0, 0), 1);
    }

    private static void changedPeople() {
        LipsVoice x = with(ROW);
        x.person(1, 2, 303);
        shows("Promise 10: other changes and P, as great as they can be");
        due("becomes", x.becomes(1, -30, 30, 0), true);
        due("becomes", x.becomes(1, 30, -30, 16), true);
        int[] all = {30, -30, 16, 3};
        for (int what = 0; what < 4; what++) {
            due("who(1, " + what + ")", x.who(1, what), all[what]);
        }
        shows("Promise 10: PERSON 0 too; the SCENE's P stays");
        due("becomes", x.becomes(0, -1, 1, 5), true);
        due("who(0, 2)", x.who(0, 2), 5);
        due("count(5)", x.count(5), 16);
        shows("Promise 10: false if there is none such, or they can't be");
        int[][] wrong = {{-1, 0, 0, 0}, {2, 0, 0, 0}, {Integer.MIN_VALUE, 0, 0, 0}, {Integer.MAX_VALUE, 0, 0, 0}, {1, -31, 0, 0}, {1, 31, 0, 0},
            {1, 0, -31, 0}, {1, 0, 31, 0}, {1, 0, 0, -1}, {1, 0, 0, 17}, {1, 0, 0, 100}, {1, Integer.MIN_VALUE, 0, 0}};
        for (int[] w : wrong) {
            due("becomes(" + w[0] + ", " + w[1] + ", " + w[2] + ", " + w[3] + ")", x.becomes(w[0], w[1], w[2], w[3]), false);
        }
        for (int what = 0; what < 4; what++) {
            due("who(1, " + what + ")", x.who(1, what), all[what]);
        }
        due("without a scene", new LipsVoice().becomes(0, 0, 0, 0), false);
    }

    // ---- answers

    private static void answers() {
        shows("Promise 16: said is a SOUND, 100 more if it was noticed");
        LipsVoice x = with(ROW);
        due("answer", x.answer(0, 0, 0, 0), 1);
        due("answer", x.answer(0, 0, 0, 2), 2);
        due("answer", x.answer(0, 0, 0, 100), 3);
        due("answer", x.answer(0, 0, 0, 102), 4);
        int[][] told = {{0, 0}, {2, 0}, {0, 1}, {2, 1}};
        for (int k = 0; k < 4; k++) {
            due("said", x.of(k, 3), told[k][0]);
            due("noticed", x.of(k, 4), told[k][1]);
        }
        shows("Promise 16: NONE if it can't be");
        for (int said : new int[] {-1, 3, 9, 10, 99, 103, 109, 199, 200, 202, 1000, -100, -98, Integer.MIN_VALUE, Integer.MAX_VALUE}) {
            due("said " + said, x.answer(0, 0, 0, said), NONE);
        }
        due("count(3)", x.count(3), 4);
        due("without a scene", new LipsVoice().answer(0, 0, 0, 0), NONE);
    }

    private static void mostAnswers() {
        shows("Terms 3: ANSWERS (at most 60)");
        LipsVoice x = with(ROW);
        for (int k = 1; k <= 60; k++) {
            due("answer " + k, x.answer(k % 3, k, k - 60, k % 2 * 100 + k % 3), k);
        }
        shows("Promise 16: NONE if 60 are");
        due("a 61st", x.answer(0, 0, 0, 0), NONE);
        due("count(3)", x.count(3), 60);
        due("of(59, 1)", x.of(59, 1), 60);
        due("of(60, 1)", x.of(60, 1), VOID);
        shows("Promise 17: one taken back, there is place for one");
        due("undo", x.undo(), 59);
        due("answer", x.answer(22, 7, 8, 1), 60);
        due("of(59, 1)", x.of(59, 1), 7);
        due("of(59, 4)", x.of(59, 4), 0);
        due("a 61st", x.answer(0, 0, 0, 0), NONE);
        due("draw", x.draw(0, 0, 0, 1), NONE);
    }

    private static void takenBack() {
        shows("Promise 17: NONE without");
        LipsVoice x = with(ROW);
        due("undo", x.undo(), NONE);
        due("undo without a scene", new LipsVoice().undo(), NONE);
        shows("Promise 17: the last is taken back: how many there are");
        x.answer(1, 0, 0, 1);
        x.answer(2, 0, 0, 2);
        due("undo", x.undo(), 1);
        due("of(0, 0)", x.of(0, 0), 1);
        due("of(1, 0)", x.of(1, 0), VOID);
        due("undo", x.undo(), 0);
        due("undo", x.undo(), NONE);
        due("count(3)", x.count(3), 0);
    }

    private static void toldAnswers() {
        shows("Promise 18: VOID for others, or if there is none such");
        LipsVoice x = with(ROW);
        due("without answers", x.of(0, 0), VOID);
        due("answer", x.answer(21, 98, -99, 102), 1);
        int[] all = {21, 98, -99, 2, 1, 1};
        for (int what = 0; what < 6; what++) {
            due("of(0, " + what + ")", x.of(0, what), all[what]);
        }
        for (int other : new int[] {-1, 6, 7, Integer.MIN_VALUE, Integer.MAX_VALUE}) {
            due("of(0, " + other + ")", x.of(0, other), VOID);
        }
        for (int other : new int[] {-1, 1, 60, 61, Integer.MIN_VALUE, Integer.MAX_VALUE}) {
            due("of(" + other + ", 0)", x.of(other, 0), VOID);
        }
        shows("Promise 18: LATE -1 is told, as what is below 0 may be");
        x.answer(21, 0, -1, 2);
        due("of(1, 2)", x.of(1, 2), -1);
    }

    // ---- how laws fit

    private static void fitsWithoutAnswers() {
        shows("Terms 3: 1 without ANSWERS: all LAWS FIT alike");
        LipsVoice x = with(ROW);
        x.person(0, 0, 0);
        for (int law = 0; law < 7; law++) {
            due("more(" + law + ", 6, all)", x.more(law, 6, ALL), 0);
            due("more(0, " + law + ", 1)", x.more(0, law, 1), 0);
        }
        due("best of all", x.best(ALL), 0);
        due("best of 0", x.best(0), 0);
        shows("Terms 3: those of one PERSON, whichever");
        x.answer(100, 0, 0, 1);
        due("person 1: ba as da by VOICE 10 of 40, by FACE 5 of 30", x.more(VOICE, FACE, 1), 1);
        due("best of 1", x.best(1), 0);
        due("undo", x.undo(), 0);
        shows("Terms 3: those of one PERSON: another's say nothing");
        x.answer(2, 0, 0, 2);
        due("more of 1", x.more(VOICE, FACE, 1), 0);
        due("more of 0", x.more(VOICE, FACE, 0), 2);
        due("best of 1", x.best(1), 0);
        due("best of 0", x.best(0), 1);
        shows("Promise 19: without a SCENE there are LAWS, and no ANSWERS; no PERSON");
        due("more of all", new LipsVoice().more(0, 6, ALL), 0);
        due("more of 0", new LipsVoice().more(0, 6, 0), NONE);
    }

    private static void fitsMore() {
        LipsVoice x = with(ROW);
        x.answer(2, 0, 0, 2);
        shows("Promise 19: 1 the first, 2 the second, 0 both alike");
        due("FACE, VOICE", x.more(FACE, VOICE, ALL), 1);
        due("VOICE, FACE", x.more(VOICE, FACE, ALL), 2);
        due("FACE, FACE", x.more(FACE, FACE, ALL), 0);
        shows("Terms 3: a product of 0 is less than any other, and alike 0");
        x.answer(2, 0, 0, 0);
        due("VOICE 0 * 750, FACE 833 * 0", x.more(VOICE, FACE, ALL), 0);
        due("ODDS at P 16 is 0, too", x.more(ODDS, FACE, ALL), 0);
        x.becomes(0, 0, 30, 16);
        due("FACE with f 55 isn't", x.more(FACE, VOICE, ALL), 1);
        shows("Promise 19: NONE if there are none such");
        int[][] wrong = {{-1, 0, ALL}, {0, -1, ALL}, {7, 0, ALL}, {0, 7, ALL}, {0, 0, -2}, {0, 0, 1}, {Integer.MIN_VALUE, 0, 0},
            {0, Integer.MAX_VALUE, 0}, {0, 0, Integer.MIN_VALUE}, {0, 0, Integer.MAX_VALUE}};
        for (int[] w : wrong) {
            due("more(" + w[0] + ", " + w[1] + ", " + w[2] + ")", x.more(w[0], w[1], w[2]), NONE);
        }
        shows("Terms 3: products of 60 CHANCES: one of them parts the LAWS");
        LipsVoice y = with("sound a 0 0;sound b 30 0;voice 60 0;face 60 0;");
        for (int k = 0; k < 30; k++) {
            y.answer(1, 0, 0, 0);
            y.answer(1, 0, 0, 1);
        }
        due("alike", y.more(VOICE, FACE, ALL), 0);
        y.undo();
        due("one less", y.more(VOICE, FACE, ALL), 1);
        y.answer(10, 0, 0, 1);
        due("another", y.more(VOICE, FACE, ALL), 1);
        y.undo();
        y.answer(10, 0, 0, 0);
        due("as the one that was", y.more(VOICE, FACE, ALL), 0);
    }

    private static void best() {
        shows("Terms 3: BEST, of like ones the least");
        LipsVoice x = with(ROW + "learn ba ga da;");
        x.answer(2, 0, 0, 1);
        // ONE, ODDS, LEARNT and BETWEEN say da for sure
        due("best", x.best(ALL), 3);
        x.undo();
        x.answer(2, 0, 10, 1);
        due("best", x.best(0), 3);
        x.answer(20, 0, -99, 1);
        due("p 14: not so sure", x.best(0), 3);
        x.answer(20, 0, 0, 2);
        due("what BETWEEN, ONE and ODDS at P 16 can't", x.best(0), 0);
        shows("Terms 3: BEST, all LAWS at 0: the least");
        LipsVoice none = with("sound a 0 0;sound b 90 0;sound c 90 90;voice 5 0;face 5 0;");
        none.answer(0, 0, 0, 1);
        due("best", none.best(ALL), 0);
        due("best", none.best(0), 0);
        shows("Terms 3: BEST may be the last");
        LipsVoice last = with(ROW);
        last.answer(11, 0, 0, 1);
        due("BETWEEN", last.best(ALL), BETWEEN);
        shows("Promise 20: NONE if there is none such, or no SCENE");
        due("person 1", last.best(1), NONE);
        due("person -2", last.best(-2), NONE);
        due("person at the least", last.best(Integer.MIN_VALUE), NONE);
        due("person at the greatest", last.best(Integer.MAX_VALUE), NONE);
        due("without a scene", new LipsVoice().best(ALL), NONE);
        due("without a scene", new LipsVoice().best(0), NONE);
    }

    private static void fitsOfOne() {
        shows("Terms 3: CHANCES by what the PERSON is now");
        LipsVoice x = with(ROW);
        x.answer(2, 0, 0, 2);
        due("VOICE, FACE", x.more(VOICE, FACE, 0), 2);
        x.becomes(0, 30, -30, 16);
        due("ga by VOICE 20 of 120, by FACE 1", x.more(VOICE, FACE, 0), 2);
        x.undo();
        x.answer(2, 0, 0, 0);
        due("ba by VOICE 60 of 120, by FACE 0", x.more(VOICE, FACE, 0), 1);
    }

    private static void ownSpans() {
        shows("Terms 3: OWN spans -12 .. 12");
        LipsVoice x = with(PAIR + "voice 40 0;face 40 0;odds 0 99;");
        due("without ANSWERS", x.own(0, 0), 0);
        due("without ANSWERS", x.own(0, 1), 0);
        x.answer(0, 0, 0, 1);
        due("b, the more the wider", x.own(0, 0), 12);
        due("the face says nothing at P 0", x.own(0, 1), 0);
        x.undo();
        x.answer(0, 0, 0, 0);
        due("a, the more the narrower", x.own(0, 0), -12);
        due("the face says nothing at P 0", x.own(0, 1), 0);
        shows("Terms 3: OWN spans of both, at their ends");
        x.becomes(0, 0, 0, 16);
        due("a at P 16", x.own(0, 0), -12);
        due("a at P 16", x.own(0, 1), -12);
        x.undo();
        x.answer(0, 0, 0, 1);
        due("b at P 16", x.own(0, 0), 12);
        due("b at P 16", x.own(0, 1), 12);
        x.undo();
        x.answer(1, 0, 0, 1);
        due("the FACE's: a wide voice", x.own(0, 0), 12);
        due("the FACE's: a narrow face", x.own(0, 1), -12);
        shows("Terms 3: OWN spans whatever the changes are now");
        x.becomes(0, 30, -30, 16);
        due("the same", x.own(0, 0), 12);
        due("the same", x.own(0, 1), -12);
        due("who(0, 0)", x.who(0, 0), 30);
        due("who(0, 1)", x.who(0, 1), -30);
        shows("Promise 21: VOID for others, or if there is none such");
        for (int other : new int[] {-1, 3, Integer.MIN_VALUE, Integer.MAX_VALUE}) {
            due("own(0, " + other + ")", x.own(0, other), VOID);
        }
        for (int other : new int[] {-1, 1, -2, Integer.MIN_VALUE, Integer.MAX_VALUE}) {
            for (int what = 0; what < 3; what++) {
                due("own(" + other + ", " + what + ")", x.own(other, what), VOID);
            }
        }
        due("without a scene", new LipsVoice().own(0, 0), VOID);
        due("without a scene", new LipsVoice().own(0, 2), VOID);
    }

    private static void ownSpanTies() {
        shows("Terms 3: of like ones with the least sum of both without their signs");
        // a is sure where v or f is 10 at most
        LipsVoice far = with(PAIR + "voice 13 0;face 12 0;odds 16 99;");
        far.answer(0, 0, 0, 0);
        due("f less by 2 is nearer than v by 3", far.own(0, 0), 0);
        due("f less by 2 is nearer than v by 3", far.own(0, 1), -2);
        shows("Terms 3: then the least change of the VOICE's");
        LipsVoice even = with(PAIR + "voice 12 0;face 12 0;odds 16 99;");
        even.answer(0, 0, 0, 0);
        due("(-2, 0) ahead of (0, -2)", even.own(0, 0), -2);
        due("(-2, 0) ahead of (0, -2)", even.own(0, 1), 0);
        shows("Terms 3: a sum that is less, though a change is farther below 0");
        due("not (-1, -1), which isn't sure", even.own(0, 0), -2);
        shows("Terms 3: none is the least sum");
        LipsVoice none = with(PAIR + "voice 10 0;face 30 0;odds 16 99;");
        none.answer(0, 0, 0, 0);
        due("sure as it is", none.own(0, 0), 0);
        due("sure as it is", none.own(0, 1), 0);
        shows("Terms 3: all products 0: no change");
        LipsVoice never = with("sound a 0 0;sound b 90 90;voice 20 0;face 20 0;");
        never.answer(0, 0, 0, 1);
        due("own(0, 0)", never.own(0, 0), 0);
        due("own(0, 1)", never.own(0, 1), 0);
        due("own(0, 2)", never.own(0, 2), 0);
        shows("Terms 3: then the least of the FACE's: (12, -12) and (12, 12) are alike");
        ownSpansAre("sound a 16 10;sound b 13 13;sound c 9 19;sound d 9 3;voice 4 0;face 22 0;odds 16 99;", 12, -12, 3, 1, 1, 3);
        shows("Terms 3: OWN spans a step from none");
        ownSpansAre("sound a 10 1;sound b 14 1;sound c 28 1;voice 12 0;face 14 0;odds 16 99;", 0, 1, 2, 1);
        ownSpansAre("sound a 10 2;sound b 14 2;voice 18 0;face 19 0;odds 16 99;", 0, -1, 1, 0, 1, 1);
        ownSpansAre("sound a 10 2;sound b 18 1;sound c 32 1;voice 23 0;face 11 0;odds 16 99;", 1, 0, 2, 2, 2, 2);
        ownSpansAre("sound a 10 1;sound b 18 2;voice 10 0;face 13 0;odds 4 99;", -1, 0, 1, 0, 11, 1);
        shows("Terms 3: OWN spans of unlike signs, between the ends");
        ownSpansAre("sound a 10 2;sound b 20 2;voice 20 0;face 19 0;odds 12 99;", 1, -2, 10, 1, 10, 0);
        ownSpansAre("sound a 10 1;sound b 16 0;voice 15 0;face 17 0;odds 11 99;", 11, -3, 0, 0, 11, 1, 11, 0);
        shows("Terms 3: OWN spans are those of the PERSON's ANSWERS");
        LipsVoice two = with(PAIR + "voice 40 0;face 40 0;odds 0 99;");
        two.person(0, 0, 0);
        two.answer(0, 0, 0, 0);
        two.answer(100, 0, 0, 1);
        due("of 0", two.own(0, 0), -12);
        due("of 1", two.own(1, 0), 12);
    }

    /** Couples of VOICE and FACE with what was said, by PERSON 1, whose changes say nothing. */
    private static void ownSpansAre(String scene, int voice, int face, int... answers) {
        LipsVoice x = with(scene);
        x.person(9, 9, x.count(5));
        for (int k = 0; k < answers.length; k += 2) {
            x.answer(100 + answers[k], 0, 0, answers[k + 1]);
        }
        due("the VOICE's in " + scene, x.own(1, 0), voice);
        due("the FACE's in " + scene, x.own(1, 1), face);
        due("the VOICE's of 0", x.own(0, 0), 0);
        due("the FACE's of 0", x.own(0, 1), 0);
    }

    private static void ownOddsAre(String scene, int p, int... answers) {
        LipsVoice x = with(scene);
        x.person(0, 0, 300);
        for (int k = 0; k < answers.length; k += 2) {
            x.answer(100 + answers[k], 0, 0, answers[k + 1]);
        }
        due("P in " + scene, x.own(1, 2), p);
        due("P of 0", x.own(0, 2), 0);
    }

    private static void ownOdds() {
        LipsVoice x = with(PAIR + "voice 20 0;face 20 0;odds 7 99;");
        shows("Terms 3: OWN ODDS P 0 .. 16, of like ones the least");
        due("without ANSWERS", x.own(0, 2), 0);
        x.answer(1, 0, 0, 1);
        // by P 0 b is 1 of 3, by P 16 10 * 20 of 20 * 10 and 10 * 20
        due("16", x.own(0, 2), 16);
        x.undo();
        x.answer(1, 0, 0, 0);
        due("0", x.own(0, 2), 0);
        shows("Terms 3: changes as they are");
        x.becomes(0, -19, 0, 7);
        due("a is sure", x.own(0, 2), 0);
        due("P as it is stays", x.who(0, 2), 7);
        shows("Terms 3: OWN ODDS between the ends");
        LipsVoice mid = with("sound ba 10 50;sound da 30 50;sound ga 50 50;voice 30 0;face 25 0;odds 16 99;");
        mid.answer(2, 0, 0, 1);
        due("da alone: 16", mid.own(0, 2), 16);
        mid.answer(2, 0, 0, 0);
        int own = mid.own(0, 2);
        due("da and ba: neither end", own > 0 && own < 16, true);
        shows("Terms 3: OWN ODDS a step from the ends");
        ownOddsAre("sound a 10 2;sound b 16 1;sound c 30 1;voice 19 0;face 17 0;odds 13 99;", 1, 12, 1, 22, 2, 2, 0);
        ownOddsAre("sound a 10 1;sound b 16 0;voice 15 0;face 17 0;odds 11 99;", 2, 0, 0, 11, 1, 11, 0);
        ownOddsAre("sound a 10 2;sound b 20 2;voice 20 0;face 19 0;odds 12 99;", 15, 10, 1, 10, 0);
        shows("Terms 3: OWN ODDS of LATE ANSWERS: P less than that is like 0, the least");
        LipsVoice late = with("sound ba 10 50;sound da 30 50;sound ga 50 50;voice 30 0;face 25 0;odds 16 11;");
        late.answer(2, 0, 99, 1);
        due("9 lost: P 16 is best", late.own(0, 2), 16);
        late.undo();
        late.answer(2, 0, 99, 0);
        due("all to 9 are alike", late.own(0, 2), 0);
    }

    // ---- lands

    private static void shares() {
        shows("Promise 22: NONE if there are no ANSWERS");
        LipsVoice x = with(ROW);
        due("share", x.share(ALL, 0), NONE);
        due("without a scene", new LipsVoice().share(ALL, 0), NONE);
        x.person(0, 0, 316);
        x.person(0, 0, 216);
        x.answer(0, 0, 0, 0);
        x.answer(2, 0, 0, 101);
        x.answer(120, 0, 0, 0);
        shows("Terms 3: SHARES of 1000 (cut)");
        due("ALIKE", x.share(ALL, 0), 333);
        due("VOICE's", x.share(ALL, 1), 0);
        due("FACE's", x.share(ALL, 2), 333);
        due("THIRD", x.share(ALL, 3), 333);
        shows("Promise 22: (kind 4) of those noticed");
        due("noticed", x.share(ALL, 4), 333);
        due("noticed in LAND 0", x.share(0, 4), 500);
        due("noticed in LAND 3", x.share(3, 4), 0);
        shows("Promise 22: of a LAND 0 .. 3 (NONE: of all)");
        x.answer(200, 0, 0, 0);
        due("LAND 2", x.share(2, 0), 1000);
        due("LAND 0", x.share(0, 0), 500);
        due("undo", x.undo(), 3);
        due("LAND 3", x.share(3, 2), 1000);
        shows("Promise 22: NONE if it has no ANSWERS");
        due("LAND 1", x.share(1, 0), NONE);
        due("LAND 2", x.share(2, 0), NONE);
        shows("Promise 22: NONE if there are none such");
        for (int land : new int[] {4, 5, -2, Integer.MIN_VALUE, Integer.MAX_VALUE}) {
            due("LAND " + land, x.share(land, 0), NONE);
        }
        for (int kind : new int[] {5, 6, -1, Integer.MIN_VALUE, Integer.MAX_VALUE}) {
            due("KIND " + kind, x.share(ALL, kind), NONE);
        }
    }

    private static void foretold() {
        shows("Promise 23: NONE if there are no ANSWERS");
        LipsVoice x = with("sound a 0 0;sound b 1 0;sound c 0 1;voice 2 0;face 2 0;odds 16 1;");
        due("foretold", x.foretold(0, ALL, 0), NONE);
        due("without a scene", new LipsVoice().foretold(0, ALL, 0), NONE);
        x.person(0, 0, 316);
        shows("Terms 3: FORETOLD: the CHANCE cut, then the sum by how many (cut)");
        // VOICE a is 2, 1, 1; VOICE b is 1, 2, 0
        x.answer(0, 0, 0, 0);
        due("500", x.foretold(0, ALL, 0), 500);
        x.answer(11, 0, 0, 0);
        due("500 and 666", x.foretold(0, ALL, 0), 583);
        x.answer(111, 0, 0, 0);
        due("500 and 666 and 666", x.foretold(0, ALL, 0), 610);
        due("LAND 3", x.foretold(0, 3, 0), 666);
        due("LAND 0", x.foretold(0, 0, 3), (500 + 333) / 2);
        shows("Terms 3: all answers of that KIND together, cut once");
        x.answer(110, 0, 0, 0);
        due("VOICE's 666, FACE's 333", x.foretold(0, 3, 1), 333);
        due("VOICE's 666, FACE's 333", x.foretold(0, 3, 2), 166);
        shows("Promise 23: (kind 4) NOTICED likewise, whatever the LAW (one of the seven)");
        for (int law = 0; law < 7; law++) {
            due("by " + law, x.foretold(law, ALL, 4), 0);
        }
        due("law 7", x.foretold(7, ALL, 4), NONE);
        due("law -1", x.foretold(-1, ALL, 4), NONE);
        x.becomes(1, 0, 0, 0);
        due("LAND 3", x.foretold(0, 3, 4), 1000);
        due("all: 2 of 4", x.foretold(6, ALL, 4), 500);
        shows("Promise 23: NONE if there are none such");
        due("LAND 1", x.foretold(0, 1, 0), NONE);
        for (int land : new int[] {4, -2, Integer.MIN_VALUE, Integer.MAX_VALUE}) {
            due("LAND " + land, x.foretold(0, land, 0), NONE);
        }
        for (int kind : new int[] {5, -1, Integer.MIN_VALUE, Integer.MAX_VALUE}) {
            due("KIND " + kind, x.foretold(0, ALL, kind), NONE);
        }
        for (int law : new int[] {7, -1, Integer.MIN_VALUE, Integer.MAX_VALUE}) {
            due("law " + law, x.foretold(law, ALL, 0), NONE);
        }
    }

    // ---- lots

    private static void drawBounds() {
        LipsVoice x = with(ROW);
        x.person(0, 0, 16);
        shows("Terms 6: a seed 0 .. 1000000");
        due("seed 0", x.draw(0, 0, 0, 1), 1);
        due("seed 1000000", x.draw(0, 0, 1000000, 1), 2);
        shows("Promise 32: n ANSWERS (1 .. 20)");
        due("n 20", x.draw(6, 1, 5, 20), 22);
        shows("Promise 32: NONE if they can't be");
        int[][] wrong = {{-1, 0, 0, 1}, {7, 0, 0, 1}, {0, -1, 0, 1}, {0, 2, 0, 1}, {0, 0, -1, 1}, {0, 0, 1000001, 1}, {0, 0, 0, 0},
            {0, 0, 0, -1}, {0, 0, 0, 21}, {Integer.MIN_VALUE, 0, 0, 1}, {0, Integer.MAX_VALUE, 0, 1}, {0, 0, Integer.MIN_VALUE, 1},
            {0, 0, Integer.MAX_VALUE, 1}, {0, 0, 0, Integer.MIN_VALUE}, {0, 0, 0, Integer.MAX_VALUE}};
        for (int[] w : wrong) {
            due("draw(" + w[0] + ", " + w[1] + ", " + w[2] + ", " + w[3] + ")", x.draw(w[0], w[1], w[2], w[3]), NONE);
        }
        due("count(3)", x.count(3), 22);
        due("without a scene", new LipsVoice().draw(0, 0, 0, 1), NONE);
        shows("Promise 32: NONE if there would be more than 60");
        due("20 more", x.draw(0, 0, 0, 20), 42);
        due("19 more", x.draw(0, 0, 0, 19), NONE);
        due("20 more", x.draw(0, 0, 0, 20), NONE);
        due("count(3)", x.count(3), 42);
        due("18 more", x.draw(0, 0, 0, 18), 60);
        due("one more", x.draw(0, 0, 0, 1), NONE);
        due("undo", x.undo(), 59);
        due("two more", x.draw(0, 0, 0, 2), NONE);
        due("one more", x.draw(0, 0, 0, 1), 60);
    }

    /** Draws, and holds all that came of it against lots that are reckoned here. */
    private static void drawn(LipsVoice x, int law, int person, int seed, int n) {
        int before = x.count(3);
        due("draw by " + law + " of " + seed, x.draw(law, person, seed, n), before + n);
        Lots lots = new Lots(seed);
        int sounds = x.count(0);
        for (int k = before; k < before + n; k++) {
            int who = person * 100 + lots.below(sounds) * 10;
            who += lots.below(sounds);
            int setting = lots.below(10) * 10;
            setting += lots.below(10);
            int late = lots.below(199) - 99;
            int lot = lots.below(x.weight(law, who, setting, late, NONE));
            int said = -1;
            int sum = 0;
            while (sum <= lot) {
                said++;
                sum += x.weight(law, who, setting, late, said);
            }
            boolean noticed = lots.below(1000) < x.noticed(who, setting, late);
            int[] all = {who, setting, late, said, noticed ? 1 : 0};
            for (int what = 0; what < all.length; what++) {
                due("of(" + k + ", " + what + ")", x.of(k, what), all[what]);
            }
        }
    }

    /** The lots of term 6 by whole numbers without end. */
    private static final class Lots {
        private java.math.BigInteger x;

        Lots(int seed) {
            x = java.math.BigInteger.valueOf(seed);
        }

        int below(int n) {
            x = x.multiply(java.math.BigInteger.valueOf(1103515245)).add(java.math.BigInteger.valueOf(12345)).mod(java.math.BigInteger.ONE.shiftLeft(31));
            return x.shiftRight(8).mod(java.math.BigInteger.valueOf(n)).intValueExact();
        }
    }

    private static void drawnAtTheEdges() {
        shows("Terms 6: x becomes the lowest 31 bits of x * 1103515245 + 12345");
        int[] seeds = {0, 1, 2, 255, 256, 65535, 999999, 1000000};
        for (int seed : seeds) {
            LipsVoice x = with(ROW + "odds 9 7;learn ba ga da;");
            x.person(7, -7, 304);
            drawn(x, seed % 7, 0, seed, 3);
            drawn(x, ODDS, 1, seed, 5);
            drawn(x, LEARNT, 1, seed, 2);
        }
        shows("Terms 6: what is said by a sum of 1, and by weights of 0");
        LipsVoice apart = with("sound a 0 0;sound b 50 50;sound c 99 99;voice 1 0;face 1 0;odds 16 99;");
        drawn(apart, BETWEEN, 0, 31, 10);
        drawn(apart, VOICE, 0, 32, 10);
        drawn(apart, ODDS, 0, 33, 10);
        shows("Terms 6: sums of weights above the greatest lot");
        StringBuilder text = new StringBuilder("voice 60 9;face 60 9;odds 16 99;");
        for (int j = 0; j < 9; j++) {
            char name = (char) ('a' + j);
            text.append("sound ").append(name).append(" 0 ").append(j).append(";hold ").append(name).append(" 9;");
        }
        LipsVoice great = with(text.toString());
        great.becomes(0, 30, 30, 16);
        due("more than 2 to the 23rd", great.weight(ODDS, 0, 99, 0, NONE) > 8388608, true);
        drawn(great, ODDS, 0, 1000000, 8);
        due("said", great.of(0, 3) >= 0, true);
    }

    private static void justNoticed() {
        shows("Terms 6: noticed: a lot below 1000 is below NOTICED");
        LipsVoice x = with(ROW + "odds 9 7;");
        drawn(x, VOICE, 0, 348, 1);
        due("lot 437 and NOTICED 437", x.of(0, 4), 0);
        due("NOTICED", x.noticed(x.of(0, 0), x.of(0, 1), x.of(0, 2)), 437);
        drawn(x, VOICE, 0, 457, 1);
        due("lot 862 and NOTICED 862", x.of(1, 4), 0);
        drawn(x, VOICE, 0, 2227, 1);
        due("lot 999 and NOTICED 1000", x.of(2, 4), 1);
    }

    private static void drawnMost() {
        shows("Promise 32: 20 drawn at once are those drawn by the same seed");
        LipsVoice x = with(ROW);
        drawn(x, ODDS, 0, 123456, 20);
        shows("Promise 32: another seed begins anew: nothing of the lots stays");
        LipsVoice y = with(ROW);
        due("draw", y.draw(ODDS, 0, 5, 3), 3);
        due("draw", y.draw(ODDS, 0, 5, 3), 6);
        for (int k = 0; k < 3; k++) {
            for (int what = 0; what < 6; what++) {
                due("of(" + (k + 3) + ", " + what + ")", y.of(k + 3, what), y.of(k, what));
            }
        }
        shows("Promise 32: NONE draws no lot: what comes next is the same");
        due("draw", y.draw(ODDS, 0, 5, 21), NONE);
        due("draw", y.draw(ODDS, 0, 5, 1), 7);
        due("of(6, 0)", y.of(6, 0), y.of(0, 0));
    }

    // ---- images

    private static void images() {
        shows("Promise 33: false without a SCENE, or if there is no such number");
        LipsVoice none = new LipsVoice();
        for (int k = 0; k < 3; k++) {
            due("image(" + k + ")", none.image(k), false);
            due("back(" + k + ")", none.back(k), false);
        }
        LipsVoice x = with(ROW);
        for (int k : new int[] {-1, 3, 4, Integer.MIN_VALUE, Integer.MAX_VALUE}) {
            due("image(" + k + ")", x.image(k), false);
            shows("Promise 34: false if there is none");
            due("back(" + k + ")", x.back(k), false);
        }
        due("back(0)", x.back(0), false);
        due("back(1)", x.back(1), false);
        due("back(2)", x.back(2), false);
        shows("Terms 6: an IMAGE (0 .. 2): each by itself");
        for (int k = 0; k < 3; k++) {
            due("image(" + k + ")", x.image(k), true);
            x.person(k, k, 100 * k + 1);
            x.answer(100 * k + 100, 0, k, 0);
        }
        for (int k = 2; k >= 0; k--) {
            due("back(" + k + ")", x.back(k), true);
            due("people", x.count(2), k + 1);
            due("answers", x.count(3), k);
        }
        shows("Terms 6: of a sheet without ANSWERS, gone back to from a full one");
        for (int k = 0; k < 60; k++) {
            x.answer(0, 0, 0, 0);
        }
        due("image(1)", x.image(1), true);
        due("back(0)", x.back(0), true);
        due("answers", x.count(3), 0);
        due("undo", x.undo(), NONE);
        due("back(1)", x.back(1), true);
        due("answers", x.count(3), 60);
        due("a 61st", x.answer(0, 0, 0, 0), NONE);
        shows("Terms 6: gone back to twice, and after changes, they are so again");
        due("back(2)", x.back(2), true);
        due("becomes", x.becomes(1, 30, 30, 16), true);
        due("undo", x.undo(), 1);
        due("back(2)", x.back(2), true);
        due("who(1, 0)", x.who(1, 0), 0);
        due("who(1, 2)", x.who(1, 2), 1);
        due("answers", x.count(3), 2);
        wholeImages();
        shows("Terms 6: an IMAGE that comes takes the place of the one ahead");
        due("undo", x.undo(), 1);
        due("image(2)", x.image(2), true);
        x.answer(0, 0, 0, 0);
        due("back(2)", x.back(2), true);
        due("answers", x.count(3), 1);
        shows("Terms 6: PEOPLE and ANSWERS alone: the text and the RULES stay as they are");
        tell(x, "call seen if 1=1;");
        due("rules()", x.rules(), 1);
        tell(x, "sound");
        due("back(0)", x.back(0), true);
        due("count(4)", x.count(4), 1);
        due("count(7)", x.count(7), 5);
        shows("Terms 1: a SCENE leaves no images");
        tell(x, ROW);
        due("scene()", x.scene(), 3);
        for (int k = 0; k < 3; k++) {
            due("back(" + k + ")", x.back(k), false);
        }
        due("image(1)", x.image(1), true);
        due("back(1)", x.back(1), true);
        due("back(0)", x.back(0), false);
    }

    private static void sheet(LipsVoice x, int[][] people, int[][] answers) {
        due("people", x.count(2), people.length);
        for (int k = 0; k < people.length; k++) {
            for (int what = 0; what < 4; what++) {
                due("who(" + k + ", " + what + ")", x.who(k, what), people[k][what]);
            }
        }
        due("answers", x.count(3), answers.length);
        for (int k = 0; k < answers.length; k++) {
            for (int what = 0; what < 6; what++) {
                due("of(" + k + ", " + what + ")", x.of(k, what), answers[k][what]);
            }
        }
    }

    private static void wholeImages() {
        shows("Terms 6: has PEOPLE and ANSWERS as they are then, all of them");
        LipsVoice x = with(ROW + "odds 11 5;");
        x.becomes(0, 1, 2, 3);
        x.person(4, 5, 106);
        x.answer(1, 12, -3, 102);
        x.answer(122, 34, 5, 2);
        due("image(0)", x.image(0), true);
        x.becomes(0, -1, -2, 13);
        x.becomes(1, -4, -5, 16);
        x.person(-7, -8, 209);
        while (x.undo() > 0) {
            due("of(1, 0)", x.of(1, 0), VOID);
        }
        x.answer(220, 98, 76, 0);
        x.answer(12, 54, 32, 101);
        x.answer(200, 1, -99, 100);
        due("image(1)", x.image(1), true);
        due("back(0)", x.back(0), true);
        sheet(x, new int[][] {{1, 2, 3, 0}, {4, 5, 6, 1}}, new int[][] {{1, 12, -3, 2, 1, 3}, {122, 34, 5, 2, 0, 0}});
        due("back(1)", x.back(1), true);
        sheet(x, new int[][] {{-1, -2, 13, 0}, {-4, -5, 16, 1}, {-7, -8, 9, 2}},
            new int[][] {{220, 98, 76, 0, 0, 2}, {12, 54, 32, 1, 1, 1}, {200, 1, -99, 0, 1, 0}});
        due("the SCENE's P stays", x.count(5), 11);
        shows("Terms 6: a LAND comes back with its PERSON");
        LipsVoice y = with(ROW);
        y.person(0, 0, 300);
        y.image(0);
        tell(y, ROW);
        y.scene();
        y.person(0, 0, 100);
        y.image(0);
        y.person(0, 0, 200);
        due("back(0)", y.back(0), true);
        due("LAND", y.who(1, 3), 1);
        due("a new one's", y.person(0, 0, 0), 2);
        due("LAND", y.who(2, 3), 0);
        due("back(0)", y.back(0), true);
        due("who(2, 3)", y.who(2, 3), VOID);
    }

    private static void counts() {
        shows("Promise 35: NONE for others");
        LipsVoice x = with(ROW + "odds 0 1;");
        for (int what : new int[] {-1, 8, 9, Integer.MIN_VALUE, Integer.MAX_VALUE}) {
            due("count(" + what + ")", x.count(what), NONE);
        }
        shows("Promise 35: 5 P, 6 W");
        due("P", x.count(5), 0);
        due("W", x.count(6), 1);
        shows("Promise 35: (0 without a SCENE)");
        LipsVoice none = new LipsVoice();
        tell(none, ROW + "odds 3 4;");
        due("fault(0)", none.fault(0), NONE);
        due("P", none.count(5), 0);
        due("W", none.count(6), 0);
        due("SOUNDS", none.count(0), 0);
        due("PEOPLE", none.count(2), 0);
        due("bytes", none.count(7), ROW.length() + 9);
        shows("Promise 35: counts at their greatest");
        StringBuilder text = new StringBuilder("voice 1 0;face 1 0;");
        for (int j = 0; j < 9; j++) {
            text.append("sound ").append((char) ('a' + j)).append(' ').append(j).append(" 0;");
        }
        for (int k = 0; k < 12; k++) {
            text.append("learn ").append((char) ('a' + k / 9)).append(' ').append((char) ('a' + k % 9)).append(" a;");
        }
        LipsVoice most = withRules(text.toString(), "call fused if 1=1;".repeat(10));
        for (int k = 0; k < 9; k++) {
            most.person(0, 0, 0);
        }
        for (int k = 0; k < 3; k++) {
            most.draw(0, 0, k, 20);
        }
        tell(most, " ".repeat(500));
        int[] all = {9, 12, 10, 60, 10, 16, 99, 500};
        for (int what = 0; what < all.length; what++) {
            due("count(" + what + ")", most.count(what), all[what]);
        }
    }
}
