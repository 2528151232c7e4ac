import java.util.Random;

/** Runs of calls by lots, with the same seeds each time: LipsVoice and Model have to answer alike. */
public final class ModelTest {
    private static final int RUNS = 600;
    private static final int CALLS = 512;

    private final Random random;
    private final LipsVoice real = new LipsVoice();
    private final Model model = new Model();
    private final int run;
    private int calls = 0;
    private int wrong = 0;

    private ModelTest(int run) {
        this.run = run;
        random = new Random(run);
    }

    public static void main(String[] args) {
        int passed = 0;
        int failed = 0;
        for (int run = 0; run < RUNS; run++) {
            ModelTest test = new ModelTest(run);
            test.go();
            if (test.wrong == 0) {
                passed++;
            } else {
                failed++;
            }
        }
        System.out.println("ModelTest: " + passed + " passed, " + failed + " failed");
        if (failed > 0) {
            System.exit(1);
        }
    }

    private void due(String call, long got, long want) {
        calls++;
        if (got != want && wrong++ < 3) {
            System.out.println("run " + run + ", call " + calls + ": " + call + " answered " + got + ", due is " + want);
        }
    }

    private static long one(boolean b) {
        return b ? 1 : 0;
    }

    private boolean odds(int per100) {
        return random.nextInt(100) < per100;
    }

    private int from(int least, int most) {
        return least + random.nextInt(most - least + 1);
    }

    /** Mostly a number that can be, now and then one beside it or far off. */
    private int near(int least, int most) {
        if (odds(97) && most >= least) {
            return from(least, most);
        }
        int[] wild = {least - 1, most + 1, least - 2, Integer.MIN_VALUE, Integer.MAX_VALUE, random.nextInt(), -1, 0, 100};
        return wild[random.nextInt(wild.length)];
    }

    private void go() {
        if (odds(80)) {
            tellScene();
        }
        while (calls < CALLS - 80) {
            step();
        }
    }

    // ---- texts

    private void feed(String text) {
        due("end(0)", one(real.end(0)), one(model.end(0)));
        String padded = text + " ".repeat((20 - text.length() % 20) % 20);
        for (int k = 0; k < padded.length(); k += 20) {
            int[] n = new int[5];
            for (int j = 0; j < 20; j++) {
                n[j / 4] = n[j / 4] << 8 | padded.charAt(k + j) & 255;
            }
            due("feed", real.feed(n[0], n[1], n[2], n[3], n[4]), model.feed(n[0], n[1], n[2], n[3], n[4]));
        }
        due("end", one(real.end(text.length())), one(model.end(text.length())));
    }

    private static final String[] WORDS = {"sound", "voice", "face", "odds", "hold", "learn", "call", "if", "and", "fused",
        "apart", "heard", "seen", "third", "noticed", "noise", "dark", "late", "ba", "da", "ga", "ka", "toolongword", "eightlet",
        "ninelette", "0", "1", "9", "16", "17", "60", "61", "99", "100", "007", "9999", "10000", "99999999999999999999", "+", "-",
        "*", "<", "=", "(", ")", ";", ";", "#", "\t", "A", "\u00e4", "\0", "\n", " ", ""};

    private String spoilt(String text) {
        String[] parts = text.split(" ");
        int k = random.nextInt(parts.length);
        switch (random.nextInt(4)) {
            case 0 -> parts[k] = "";
            case 1 -> parts[k] = WORDS[random.nextInt(WORDS.length)];
            case 2 -> parts[k] = parts[k] + " " + WORDS[random.nextInt(WORDS.length)];
            default -> {
                int at = random.nextInt(text.length());
                return odds(50) ? text.substring(0, at) : text.substring(0, at) + (char) random.nextInt(256) + text.substring(at);
            }
        }
        return String.join(" ", parts);
    }

    private static final String[] NAMES = {"ba", "da", "ga", "ka", "ta", "pa", "a", "abcdefgh", "call", "xy", "seen"};

    /** Sounds in a row, spans that reach little farther than the next: here thirds come and go with the odds. */
    private String rowText() {
        StringBuilder b = new StringBuilder();
        int n = from(3, 7);
        int step = from(4, 12);
        for (int k = 0; k < n; k++) {
            b.append("sound ").append(NAMES[k]).append(' ').append(step * k).append(odds(80) ? " 5 ; " : " 6 ; ");
        }
        b.append("voice ").append(from(step, 3 * step)).append(' ').append(from(0, 2)).append(" ; ");
        b.append("face ").append(from(step, 3 * step)).append(' ').append(from(0, 2)).append(" ; ");
        return b.append("odds ").append(from(10, 16)).append(' ').append(from(1, 12)).append(" ; ").toString();
    }

    private String sceneText() {
        if (odds(40)) {
            return rowText();
        }
        StringBuilder b = new StringBuilder();
        int n = odds(20) ? 9 : from(2, 6);
        int first = random.nextInt(NAMES.length);
        int spread = new int[] {9, 30, 99}[random.nextInt(3)];
        for (int k = 0; k < n; k++) {
            b.append("sound ").append(NAMES[(first + k) % NAMES.length]).append(' ').append(from(0, spread)).append(' ')
                .append(from(0, spread)).append(" ; ");
        }
        int least = odds(20) ? 1 : 10;
        b.append("voice ").append(from(least, 60)).append(' ').append(from(0, 9)).append(" ; ");
        b.append("face ").append(from(least, 60)).append(' ').append(from(0, 9)).append(" ; ");
        if (odds(70)) {
            b.append("odds ").append(from(0, 16)).append(' ').append(odds(30) ? from(1, 3) : from(1, 99)).append(" ; ");
        }
        for (int k = 0; k < n; k++) {
            if (odds(30)) {
                b.append("hold ").append(NAMES[(first + k) % NAMES.length]).append(' ').append(from(1, 9)).append(" ; ");
            }
        }
        int learns = odds(40) ? from(1, 4) : 0;
        for (int k = 0; k < learns; k++) {
            b.append("learn");
            for (int j = 0; j < 3; j++) {
                b.append(' ').append(NAMES[(first + random.nextInt(n)) % NAMES.length]);
            }
            b.append(" ; ");
        }
        return odds(50) ? b.toString() : b.toString().replace(" ;", ";").replace("; ", odds(50) ? ";" : ";\n");
    }

    private String sum(int depth) {
        StringBuilder b = new StringBuilder(factor(depth));
        while (odds(35) && b.length() < 60) {
            b.append(new String[] {" + ", " - ", " * "}[random.nextInt(3)]).append(factor(depth));
        }
        return b.toString();
    }

    private String factor(int depth) {
        if (odds(25) && depth < 9) {
            return "( " + sum(depth + 1) + " )";
        }
        if (odds(40)) {
            return String.valueOf(odds(80) ? from(0, 1000) : from(0, 9999));
        }
        return new String[] {"third", "noticed", "voice", "face", "noise", "dark", "late"}[random.nextInt(7)];
    }

    private String rulesText() {
        StringBuilder b = new StringBuilder();
        int n = odds(10) ? 11 : from(1, 4);
        for (int k = 0; k < n; k++) {
            b.append("call ").append(new String[] {"fused", "apart", "heard", "seen"}[random.nextInt(4)]).append(" if ");
            b.append(n > 9 ? "1" : sum(0)).append(odds(80) ? " < " : " = ").append(n > 9 ? "third" : sum(0));
            while (odds(20)) {
                b.append(" and ").append(sum(0)).append(" < ").append(sum(0));
            }
            b.append(" ; ");
        }
        String text = b.toString();
        return text.length() > 500 ? "call fused if third < noticed ; call seen if (((((((( 1 )))))))) = 1 ;" : text;
    }

    private void tellScene() {
        for (int tries = 0; tries < 3; tries++) {
            feed(odds(70) ? sceneText() : spoilt(sceneText()));
            due("fault(0)", real.fault(0), model.fault(0));
            long got = real.scene();
            due("scene()", got, model.scene());
            if (got != Model.NONE) {
                break;
            }
        }
        for (int what = 0; what <= 7; what++) {
            due("count(" + what + ")", real.count(what), model.count(what));
        }
    }

    private void tellRules() {
        feed(odds(70) ? rulesText() : spoilt(rulesText()));
        due("fault(1)", real.fault(1), model.fault(1));
        due("rules()", real.rules(), model.rules());
    }

    // ---- calls

    private int someWho() {
        if (odds(3)) {
            return near(0, 999);
        }
        int n = Math.max(1, real.count(0));
        return from(0, Math.max(0, real.count(2) - 1)) * 100 + random.nextInt(n) * 10 + random.nextInt(n);
    }

    private int someChange() {
        return odds(60) ? from(-2, 2) : near(-30, 30);
    }

    private int somePerson() {
        return near(0, Math.max(0, real.count(2) - 1));
    }

    private int personOrAll() {
        return odds(40) ? Model.NONE : somePerson();
    }

    private void step() {
        int who = someWho();
        int setting = odds(30) ? from(0, 1) * 10 : near(0, 99);
        int late = odds(40) ? 0 : near(-99, 99);
        int law = near(0, 6);
        String trial = "(" + law + " " + who + ", " + setting + ", " + late + ")";
        switch (random.nextInt(40)) {
            case 0 -> {
                if (odds(15)) {
                    tellScene();
                } else {
                    String wild = odds(50) ? spoilt(sceneText()) : spoilt(rulesText());
                    feed(wild);
                    due("fault(0) " + wild, real.fault(0), model.fault(0));
                    due("fault(1) " + wild, real.fault(1), model.fault(1));
                    int what = near(0, 1);
                    due("fault " + what, real.fault(what), model.fault(what));
                }
            }
            case 1 -> tellRules();
            case 2 -> {
                int n = near(0, 520);
                due("end " + n, one(real.end(n)), one(model.end(n)));
                for (int k = odds(10) ? 0 : 30; k < 30; k++) {
                    due("feed", real.feed(k, n, n, n, -k), model.feed(k, n, n, n, -k));
                }
                due("feed", real.feed(n, n, n, n, n), model.feed(n, n, n, n, n));
            }
            case 3 -> {
                int sound = near(0, 9);
                int what = near(0, 2);
                due("sound", real.sound(sound, what), model.sound(sound, what));
            }
            case 4, 5 -> {
                int voice = someChange();
                int face = someChange();
                int land = odds(90) ? from(0, 3) * 100 + from(0, 16) : near(0, 400);
                due("person", real.person(voice, face, land), model.person(voice, face, land));
            }
            case 6 -> {
                int person = somePerson();
                int what = near(0, 3);
                due("who", real.who(person, what), model.who(person, what));
            }
            case 7 -> {
                int person = somePerson();
                int voice = someChange();
                int face = someChange();
                int p = near(0, 16);
                due("becomes", one(real.becomes(person, voice, face, p)), one(model.becomes(person, voice, face, p)));
            }
            case 8, 9 -> {
                int answer = odds(30) ? -1 : near(0, real.count(0) - 1);
                due("weight" + trial + answer, real.weight(law, who, setting, late, answer),
                    model.weight(law, who, setting, late, answer));
            }
            case 10 -> {
                int answer = near(0, real.count(0) - 1);
                due("chance" + trial, real.chance(law, who, setting, late, answer), model.chance(law, who, setting, late, answer));
            }
            case 11 -> {
                int kind = near(0, 3);
                due("kind" + trial, real.kind(law, who, setting, late, kind), model.kind(law, who, setting, late, kind));
            }
            case 12 -> due("likely" + trial, real.likely(law, who, setting, late), model.likely(law, who, setting, late));
            case 13 -> due("noticed" + trial, real.noticed(who, setting, late), model.noticed(who, setting, late));
            case 14, 15, 16, 17, 18, 19 -> {
                int said = near(0, Math.max(0, real.count(0) - 1)) + (odds(30) ? 100 : 0);
                due("answer" + trial, real.answer(who, setting, late, said), model.answer(who, setting, late, said));
            }
            case 20 -> due("undo()", real.undo(), model.undo());
            case 21 -> {
                int k = near(0, real.count(3) - 1);
                int what = near(0, 5);
                due("of", real.of(k, what), model.of(k, what));
            }
            case 22 -> {
                int other = near(0, 6);
                int person = personOrAll();
                due("more " + law + " " + other + " " + person, real.more(law, other, person), model.more(law, other, person));
            }
            case 23 -> {
                int person = personOrAll();
                due("best " + person, real.best(person), model.best(person));
            }
            case 24 -> {
                int person = somePerson();
                int what = odds(20) ? near(0, 2) : 2;
                due("own " + person + " " + what, real.own(person, what), model.own(person, what));
            }
            case 25 -> {
                int land = near(-1, 3);
                int kind = near(0, 4);
                due("share", real.share(land, kind), model.share(land, kind));
            }
            case 26 -> {
                int land = near(-1, 3);
                int kind = near(0, 4);
                due("foretold", real.foretold(law, land, kind), model.foretold(law, land, kind));
            }
            case 27, 28 -> {
                int kinds = odds(90) ? from(0, 3) * 10 + from(0, 6) : near(0, 36);
                int person = somePerson();
                int k = odds(50) ? -1 : near(0, 9);
                due("pairs", real.pairs(kinds, person, setting, late, k), model.pairs(kinds, person, setting, late, k));
            }
            case 29 -> {
                int side = near(0, 1);
                due("hump" + trial, real.hump(who, setting, side), model.hump(who, setting, side));
            }
            case 30 -> {
                int person = somePerson();
                due("right", real.right(law, person, setting), model.right(law, person, setting));
            }
            case 31 -> {
                int person = somePerson();
                due("worth", real.worth(law, person, setting), model.worth(law, person, setting));
            }
            case 32, 33 -> {
                int laws = odds(95) ? from(0, 6) * 10 + from(0, 6) : near(0, 66);
                due("parted " + laws + trial, real.parted(laws, who, setting, late), model.parted(laws, who, setting, late));
            }
            case 34 -> {
                int laws = odds(95) ? from(0, 6) * 10 + from(0, 6) : near(0, 66);
                int person = somePerson();
                int dark = near(0, 9);
                int what = near(0, 1);
                due("next", real.next(laws, person, dark, what), model.next(laws, person, dark, what));
            }
            case 35 -> due("knowing", real.knowing(law, who, setting, late), model.knowing(law, who, setting, late));
            case 36, 37 -> {
                int what = near(0, 1);
                due("called" + trial, real.called(who, setting, late, what), model.called(who, setting, late, what));
            }
            case 38 -> {
                int person = somePerson();
                int seed = near(0, 1000000);
                int n = near(1, 20);
                due("draw", real.draw(law, person, seed, n), model.draw(law, person, seed, n));
                for (int what = 0; what < 6; what++) {
                    int k = real.count(3) - 1;
                    due("of", real.of(k, what), model.of(k, what));
                }
            }
            default -> {
                int k = near(0, 2);
                if (odds(60)) {
                    due("image", one(real.image(k)), one(model.image(k)));
                } else {
                    due("back", one(real.back(k)), one(model.back(k)));
                }
                int what = near(0, 7);
                due("count", real.count(what), model.count(what));
            }
        }
    }
}
