import java.util.ArrayList;
import java.util.Arrays;
import java.util.List;

/** "What is refused changes nothing": after each refused call an object answers as one does that never had the call. */
public final class RefusalTest extends Checks {
    private static final int LEAST = Integer.MIN_VALUE;
    private static final int MOST = Integer.MAX_VALUE;

    private interface Call {
        long on(LipsVoice x);
    }

    private interface State {
        LipsVoice make();
    }

    /** A call, by the answer that refuses it. */
    private record Refused(String name, long answer, Call call) { }

    public static void main(String[] args) {
        all("a new object", RefusalTest::empty, whatever(), withoutScene());
        all("a scene", RefusalTest::some, whatever(), beyondThree());
        all("a full object", RefusalTest::full, whatever(), whereFull());
        end("RefusalTest");
    }

    // ---- objects

    private static LipsVoice empty() {
        LipsVoice x = new LipsVoice();
        tell(x, "sound a 1 1; call");
        return x;
    }

    private static LipsVoice some() {
        LipsVoice x = withRules(ROW + "odds 12 7; hold da 2; learn ba ga da;",
            "call fused if noticed < 500 and 0 < third; call heard if late = 3; call seen if noise < dark;");
        x.person(3, -4, 105);
        x.person(-5, 6, 316);
        x.answer(2, 10, -7, 1);
        x.image(0);
        x.answer(102, 3, 20, 102);
        x.answer(221, 0, 0, 0);
        x.image(2);
        x.becomes(1, -1, 1, 9);
        x.answer(200, 99, 99, 100);
        tell(x, "sound a 1 1; call");
        return x;
    }

    private static LipsVoice full() {
        StringBuilder text = new StringBuilder("voice 20 3;face 30 2;odds 9 20;");
        for (int j = 0; j < 9; j++) {
            text.append("sound ").append((char) ('a' + j)).append(' ').append(j * 7).append(' ').append(j * j).append(';');
        }
        LipsVoice x = withRules(text.toString(), "call apart if third < 200;".repeat(10));
        for (int k = 1; k < 10; k++) {
            x.person(k, -k, k % 4 * 100 + k);
        }
        x.draw(4, 3, 17, 20);
        x.draw(1, 9, 18, 20);
        x.image(1);
        x.draw(0, 0, 19, 20);
        tell(x, "a".repeat(499) + "#");
        return x;
    }

    // ---- all that can be seen of one

    private static long[] seen(LipsVoice x) {
        List<Long> all = new ArrayList<>();
        sheet(all, x);
        all.add((long) x.fault(0));
        all.add((long) x.fault(1));
        for (int sound = 0; sound < 9; sound++) {
            all.add((long) x.sound(sound, 0) * 10000 + x.sound(sound, 1) * 100 + x.sound(sound, 2));
        }
        for (int law = 0; law < 7; law++) {
            all.add((long) x.weight(law, 2, 35, 8, 1));
            all.add((long) x.weight(law, 102, 0, -8, NONE));
            all.add((long) x.right(law, 0, 11));
        }
        for (int late = 0; late < 5; late++) {
            all.add((long) x.called(1, 13, late, 1));
        }
        all.add((long) x.own(0, 2));
        all.add((long) x.best(NONE));
        for (int k = 0; k < 3; k++) {
            all.add(x.back(k) ? 1L : 0L);
            sheet(all, x);
        }
        long[] numbers = new long[all.size()];
        for (int k = 0; k < numbers.length; k++) {
            numbers[k] = all.get(k);
        }
        return numbers;
    }

    private static void sheet(List<Long> all, LipsVoice x) {
        for (int what = 0; what < 8; what++) {
            all.add((long) x.count(what));
        }
        for (int person = 0; person < x.count(2); person++) {
            all.add(((x.who(person, 0) * 100L + x.who(person, 1)) * 100 + x.who(person, 2)) * 10 + x.who(person, 3));
        }
        int answers = x.count(3);
        for (int k = answers > 10 ? answers - 3 : 0; k < answers; k++) {
            for (int what = 0; what < 5; what++) {
                all.add((long) x.of(k, what));
            }
        }
    }

    private static void all(String name, State state, List<Refused> some, List<Refused> more) {
        long[] untouched = seen(state.make());
        List<Refused> calls = new ArrayList<>(some);
        calls.addAll(more);
        for (Refused one : calls) {
            LipsVoice x = state.make();
            shows(name + ", refused " + one.name);
            due("the call", one.call.on(x), one.answer);
            due("changes nothing", Arrays.equals(seen(x), untouched), true);
        }
        shows(name + ", all that is refused one behind the other");
        LipsVoice x = state.make();
        for (Refused one : calls) {
            due(one.name, one.call.on(x), one.answer);
        }
        due("changes nothing", Arrays.equals(seen(x), untouched), true);
    }

    // ---- what is refused

    private static void no(List<Refused> calls, String name, Call call) {
        calls.add(new Refused(name, NONE, call));
    }

    private static void isFalse(List<Refused> calls, String name, Call call) {
        calls.add(new Refused(name, 0, call));
    }

    private static void isVoid(List<Refused> calls, String name, Call call) {
        calls.add(new Refused(name, VOID, call));
    }

    private static long one(boolean b) {
        return b ? 1 : 0;
    }

    private static List<Refused> whatever() {
        List<Refused> calls = new ArrayList<>();
        isFalse(calls, "end(-1)", x -> one(x.end(-1)));
        isFalse(calls, "end(501)", x -> one(x.end(501)));
        isFalse(calls, "end at the least", x -> one(x.end(LEAST)));
        isVoid(calls, "fault(2)", x -> x.fault(2));
        no(calls, "scene()", x -> x.scene());
        no(calls, "rules()", x -> x.rules());
        no(calls, "sound(9, 0)", x -> x.sound(9, 0));
        no(calls, "person(31, 0, 0)", x -> x.person(31, 0, 0));
        no(calls, "person(0, -31, 0)", x -> x.person(0, -31, 0));
        no(calls, "person(0, 0, 17)", x -> x.person(0, 0, 17));
        no(calls, "person(0, 0, 400)", x -> x.person(0, 0, 400));
        no(calls, "person(0, 0, -1)", x -> x.person(0, 0, -1));
        isVoid(calls, "who(10, 0)", x -> x.who(10, 0));
        isFalse(calls, "becomes(-1, 0, 0, 0)", x -> one(x.becomes(-1, 0, 0, 0)));
        isFalse(calls, "becomes(10, 0, 0, 0)", x -> one(x.becomes(10, 0, 0, 0)));
        isFalse(calls, "becomes(0, 31, 5, 5)", x -> one(x.becomes(0, 31, 5, 5)));
        isFalse(calls, "becomes(0, 5, -31, 5)", x -> one(x.becomes(0, 5, -31, 5)));
        isFalse(calls, "becomes(0, 5, 5, 17)", x -> one(x.becomes(0, 5, 5, 17)));
        isFalse(calls, "becomes(0, 5, 5, -1)", x -> one(x.becomes(0, 5, 5, -1)));
        no(calls, "weight of law 7", x -> x.weight(7, 0, 0, 0, 0));
        no(calls, "chance of answer 9", x -> x.chance(0, 0, 0, 0, 9));
        no(calls, "kind 4", x -> x.kind(0, 0, 0, 0, 4));
        no(calls, "likely of law -1", x -> x.likely(-1, 0, 0, 0));
        no(calls, "noticed at late 100", x -> x.noticed(0, 0, 100));
        no(calls, "answer of who -1", x -> x.answer(-1, 0, 0, 0));
        no(calls, "answer of person 10", x -> x.answer(1000, 0, 0, 0));
        no(calls, "answer of voice 9", x -> x.answer(90, 0, 0, 0));
        no(calls, "answer of face 9", x -> x.answer(9, 0, 0, 0));
        no(calls, "answer in setting 100", x -> x.answer(0, 100, 0, 0));
        no(calls, "answer at late -100", x -> x.answer(0, 0, -100, 0));
        no(calls, "answer 9", x -> x.answer(0, 0, 0, 9));
        no(calls, "answer 200", x -> x.answer(0, 0, 0, 200));
        isVoid(calls, "of(60, 0)", x -> x.of(60, 0));
        isVoid(calls, "of(0, 6)", x -> x.of(0, 6));
        no(calls, "more of law 7", x -> x.more(7, 0, NONE));
        no(calls, "best of -2", x -> x.best(-2));
        isVoid(calls, "own of 10", x -> x.own(10, 0));
        isVoid(calls, "own 3", x -> x.own(0, 3));
        no(calls, "share of land 4", x -> x.share(4, 0));
        no(calls, "foretold by law 7", x -> x.foretold(7, NONE, 0));
        no(calls, "pairs of kind 4", x -> x.pairs(40, 0, 0, 0, NONE));
        no(calls, "hump of side 2", x -> x.hump(0, 0, 2));
        no(calls, "right by law 7", x -> x.right(7, 0, 0));
        no(calls, "worth by law -1", x -> x.worth(-1, 0, 0));
        no(calls, "parted by 7", x -> x.parted(7, 0, 0, 0));
        no(calls, "next at dark 10", x -> x.next(1, 0, 10, 0));
        no(calls, "knowing by law 7", x -> x.knowing(7, 0, 0, 0));
        no(calls, "called 2", x -> x.called(0, 0, 0, 2));
        no(calls, "draw by law 7", x -> x.draw(7, 0, 0, 1));
        no(calls, "draw for 10", x -> x.draw(0, 10, 0, 1));
        no(calls, "draw of seed -1", x -> x.draw(0, 0, -1, 1));
        no(calls, "draw of seed 1000001", x -> x.draw(0, 0, 1000001, 1));
        no(calls, "draw 0", x -> x.draw(0, 0, 0, 0));
        no(calls, "draw 21", x -> x.draw(0, 0, 0, 21));
        no(calls, "draw as many as can't be", x -> x.draw(0, 0, 0, MOST));
        isFalse(calls, "image(3)", x -> one(x.image(3)));
        isFalse(calls, "image(-1)", x -> one(x.image(-1)));
        isFalse(calls, "back(3)", x -> one(x.back(3)));
        isFalse(calls, "back(-1)", x -> one(x.back(-1)));
        no(calls, "count(8)", x -> x.count(8));
        return calls;
    }

    private static List<Refused> withoutScene() {
        List<Refused> calls = new ArrayList<>();
        isFalse(calls, "end(18)", x -> one(x.end(18)));
        no(calls, "person(0, 0, 0)", x -> x.person(0, 0, 0));
        isVoid(calls, "who(0, 0)", x -> x.who(0, 0));
        isFalse(calls, "becomes(0, 0, 0, 0)", x -> one(x.becomes(0, 0, 0, 0)));
        no(calls, "answer(0, 0, 0, 0)", x -> x.answer(0, 0, 0, 0));
        no(calls, "undo()", x -> x.undo());
        no(calls, "best(NONE)", x -> x.best(NONE));
        no(calls, "draw(0, 0, 0, 1)", x -> x.draw(0, 0, 0, 1));
        for (int k = 0; k < 3; k++) {
            int image = k;
            isFalse(calls, "image(" + k + ")", x -> one(x.image(image)));
            isFalse(calls, "back(" + k + ")", x -> one(x.back(image)));
        }
        return calls;
    }

    private static List<Refused> beyondThree() {
        List<Refused> calls = new ArrayList<>();
        isFalse(calls, "end(18)", x -> one(x.end(18)));
        no(calls, "sound(3, 0)", x -> x.sound(3, 0));
        isFalse(calls, "becomes(3, 0, 0, 0)", x -> one(x.becomes(3, 0, 0, 0)));
        no(calls, "answer of person 3", x -> x.answer(300, 0, 0, 0));
        no(calls, "answer of voice 3", x -> x.answer(30, 0, 0, 0));
        no(calls, "answer of face 3", x -> x.answer(3, 0, 0, 0));
        no(calls, "answer 3", x -> x.answer(0, 0, 0, 3));
        no(calls, "answer 103", x -> x.answer(0, 0, 0, 103));
        isVoid(calls, "of(4, 0)", x -> x.of(4, 0));
        no(calls, "draw for 3", x -> x.draw(0, 3, 0, 1));
        isFalse(calls, "back(1)", x -> one(x.back(1)));
        return calls;
    }

    private static List<Refused> whereFull() {
        List<Refused> calls = new ArrayList<>();
        no(calls, "feed", x -> x.feed(0x20202020, 0, -1, 7, 0x61626364));
        no(calls, "an 11th person", x -> x.person(0, 0, 0));
        no(calls, "a 61st answer", x -> x.answer(0, 0, 0, 0));
        no(calls, "a 61st drawn", x -> x.draw(0, 0, 0, 1));
        isFalse(calls, "back(0)", x -> one(x.back(0)));
        isFalse(calls, "back(2)", x -> one(x.back(2)));
        return calls;
    }
}
