import java.math.BigInteger;
import java.util.ArrayList;
import java.util.HashMap;
import java.util.List;
import java.util.Map;
import java.util.regex.Matcher;
import java.util.regex.Pattern;

/** The document once more, slow and with the Java library: what LipsVoice answers is held against it. */
final class Model {
    static final int NONE = -1;
    static final int VOID = Integer.MIN_VALUE;

    /** A text can't be: the place is the fault. */
    static final class Fault extends RuntimeException {
        private static final long serialVersionUID = 1;

        final int place;

        Fault(int place) {
            super(null, null, false, false);
            this.place = place;
        }
    }

    record Token(String word, int place) { }

    record Sound(String name, int x, int y) { }

    record Person(int voice, int face, int p, int land) { }

    record Answer(int who, int setting, int late, int said, boolean noticed) { }

    record Image(List<Person> people, List<Answer> answers) { }

    record Line(int outcome, List<Object> conditions) { }

    record Scene(List<Sound> sounds, int[] hold, int[] voice, int[] face, int[] odds, Map<String, Integer> learn) { }

    private final StringBuilder text = new StringBuilder();
    private Scene scene;
    private List<Line> lines = List.of();
    private List<Person> people = new ArrayList<>();
    private List<Answer> answers = new ArrayList<>();
    private final Image[] images = new Image[3];

    // ---- texts

    private List<Token> tokens() {
        List<Token> all = new ArrayList<>();
        Matcher m = Pattern.compile("[a-z]+|[0-9]+|[-+*<=();]|[ \\n]+|.", Pattern.DOTALL).matcher(text);
        while (m.find()) {
            String t = m.group();
            if (t.matches("[ \\n]+")) {
                continue;
            }
            all.add(new Token(t.matches("[a-z]+|[0-9]+|[-+*<=();]") ? t : "?", m.start()));
        }
        all.add(new Token("", text.length()));
        return all;
    }

    private static final List<String> KEYS = List.of("sound", "voice", "face", "odds", "hold", "learn");

    private final class Reader {
        final List<Token> tokens = tokens();
        int at = 0;

        Token look() {
            return tokens.get(at);
        }

        Fault fault() {
            return new Fault(look().place());
        }

        String take() {
            return tokens.get(at++).word();
        }

        void need(String word) {
            if (!look().word().equals(word)) {
                throw fault();
            }
            at++;
        }

        int number(int least, int most) {
            if (!look().word().matches("[0-9]+")) {
                throw fault();
            }
            BigInteger n = new BigInteger(look().word());
            if (n.compareTo(BigInteger.valueOf(least)) < 0 || n.compareTo(BigInteger.valueOf(most)) > 0) {
                throw fault();
            }
            at++;
            return n.intValue();
        }
    }

    private static int find(List<Sound> sounds, String name) {
        for (int k = 0; k < sounds.size(); k++) {
            if (sounds.get(k).name().equals(name)) {
                return k;
            }
        }
        return NONE;
    }

    private Scene readScene() {
        Reader r = new Reader();
        List<Sound> sounds = new ArrayList<>();
        int[] hold = new int[9];
        int[] voice = null;
        int[] face = null;
        int[] odds = null;
        Map<String, Integer> learn = new HashMap<>();
        while (!r.look().word().isEmpty()) {
            switch (r.look().word()) {
                case "sound" -> {
                    if (sounds.size() == 9) {
                        throw r.fault();
                    }
                    r.take();
                    String name = r.look().word();
                    if (!name.matches("[a-z]{1,8}") || KEYS.contains(name) || find(sounds, name) >= 0) {
                        throw r.fault();
                    }
                    r.take();
                    int x = r.number(0, 99);
                    Token last = r.look();
                    int y = r.number(0, 99);
                    for (Sound s : sounds) {
                        if (s.x() == x && s.y() == y) {
                            throw new Fault(last.place());
                        }
                    }
                    sounds.add(new Sound(name, x, y));
                }
                case "voice" -> {
                    if (voice != null) {
                        throw r.fault();
                    }
                    r.take();
                    voice = new int[] {r.number(1, 60), r.number(0, 9)};
                }
                case "face" -> {
                    if (face != null) {
                        throw r.fault();
                    }
                    r.take();
                    face = new int[] {r.number(1, 60), r.number(0, 9)};
                }
                case "odds" -> {
                    if (odds != null) {
                        throw r.fault();
                    }
                    r.take();
                    odds = new int[] {r.number(0, 16), r.number(1, 99)};
                }
                case "hold" -> {
                    r.take();
                    int s = find(sounds, r.look().word());
                    if (s < 0 || hold[s] > 0) {
                        throw r.fault();
                    }
                    r.take();
                    hold[s] = r.number(1, 9);
                }
                case "learn" -> {
                    if (learn.size() == 12) {
                        throw r.fault();
                    }
                    r.take();
                    int[] three = new int[3];
                    for (int k = 0; k < 3; k++) {
                        three[k] = find(sounds, r.look().word());
                        if (three[k] < 0 || (k == 1 && learn.containsKey(three[0] + "/" + three[1]))) {
                            throw r.fault();
                        }
                        r.take();
                    }
                    learn.put(three[0] + "/" + three[1], three[2]);
                }
                default -> throw r.fault();
            }
            r.need(";");
        }
        if (sounds.size() < 2 || voice == null || face == null) {
            throw new Fault(text.length());
        }
        for (int k = 0; k < 9; k++) {
            hold[k] = Math.max(1, hold[k]);
        }
        return new Scene(sounds, hold, voice, face, odds == null ? new int[] {16, 99} : odds, learn);
    }

    private static final List<String> OUTCOMES = List.of("fused", "apart", "heard", "seen");
    private static final List<String> ATOMS = List.of("third", "noticed", "voice", "face", "noise", "dark", "late");

    private List<Line> readRules() {
        Reader r = new Reader();
        List<Line> all = new ArrayList<>();
        do {
            if (all.size() == 10) {
                throw r.fault();
            }
            r.need("call");
            int outcome = OUTCOMES.indexOf(r.look().word());
            if (outcome < 0) {
                throw r.fault();
            }
            r.take();
            r.need("if");
            List<Object> conditions = new ArrayList<>();
            conditions.add(condition(r));
            while (r.look().word().equals("and")) {
                r.take();
                conditions.add(condition(r));
            }
            r.need(";");
            all.add(new Line(outcome, conditions));
        } while (!r.look().word().isEmpty());
        return all;
    }

    private Object[] condition(Reader r) {
        Object left = sum(r, 0);
        String sign = r.look().word();
        if (!sign.equals("<") && !sign.equals("=")) {
            throw r.fault();
        }
        r.take();
        return new Object[] {sign, left, sum(r, 0)};
    }

    private Object sum(Reader r, int open) {
        Object left = product(r, open);
        while (r.look().word().equals("+") || r.look().word().equals("-")) {
            String sign = r.take();
            left = new Object[] {sign, left, product(r, open)};
        }
        return left;
    }

    private Object product(Reader r, int open) {
        Object left = factor(r, open);
        while (r.look().word().equals("*")) {
            r.take();
            left = new Object[] {"*", left, factor(r, open)};
        }
        return left;
    }

    private Object factor(Reader r, int open) {
        String word = r.look().word();
        if (ATOMS.contains(word)) {
            return r.take();
        }
        if (word.equals("(") && open < 8) {
            r.take();
            Object inner = sum(r, open + 1);
            r.need(")");
            return inner;
        }
        return r.number(0, 9999);
    }

    private long value(Object e, long[] atoms) {
        if (e instanceof Integer n) {
            return n;
        }
        if (e instanceof String atom) {
            return atoms[ATOMS.indexOf(atom)];
        }
        Object[] node = (Object[]) e;
        long left = value(node[1], atoms);
        long right = value(node[2], atoms);
        long v = switch ((String) node[0]) {
            case "+" -> left + right;
            case "-" -> left - right;
            default -> left * right;
        };
        return v > 1000000 ? 1000000 : v < -1000000 ? -1000000 : v;
    }

    private boolean holds(Object c, long[] atoms) {
        Object[] node = (Object[]) c;
        long left = value(node[1], atoms);
        long right = value(node[2], atoms);
        return node[0].equals("<") ? left < right : left == right;
    }

    int feed(int a, int b, int c, int d, int e) {
        if (text.length() > 480) {
            return NONE;
        }
        for (int n : new int[] {a, b, c, d, e}) {
            text.append((char) (n >>> 24)).append((char) (n >> 16 & 255)).append((char) (n >> 8 & 255)).append((char) (n & 255));
        }
        return text.length();
    }

    boolean end(int n) {
        if (n < 0 || n > text.length()) {
            return false;
        }
        text.setLength(n);
        return true;
    }

    int fault(int what) {
        try {
            if (what == 0) {
                readScene();
                return NONE;
            }
            if (what == 1) {
                readRules();
                return NONE;
            }
            return VOID;
        } catch (Fault f) {
            return f.place;
        }
    }

    int scene() {
        if (fault(0) != NONE) {
            return NONE;
        }
        scene = readScene();
        text.setLength(0);
        people = new ArrayList<>(List.of(new Person(0, 0, scene.odds()[0], 0)));
        answers = new ArrayList<>();
        images[0] = null;
        images[1] = null;
        images[2] = null;
        return scene.sounds().size();
    }

    int rules() {
        if (fault(1) != NONE) {
            return NONE;
        }
        lines = readRules();
        text.setLength(0);
        return lines.size();
    }

    int sounds() {
        return scene == null ? 0 : scene.sounds().size();
    }

    int sound(int sound, int what) {
        if (sound < 0 || sound >= sounds() || what < 0 || what > 2) {
            return NONE;
        }
        Sound s = scene.sounds().get(sound);
        return what == 0 ? s.x() : what == 1 ? s.y() : scene.hold()[sound];
    }

    int count(int what) {
        return switch (what) {
            case 0 -> sounds();
            case 1 -> scene == null ? 0 : scene.learn().size();
            case 2 -> people.size();
            case 3 -> answers.size();
            case 4 -> lines.size();
            case 5 -> scene == null ? 0 : scene.odds()[0];
            case 6 -> scene == null ? 0 : scene.odds()[1];
            case 7 -> text.length();
            default -> NONE;
        };
    }

    // ---- people

    int person(int voice, int face, int land) {
        if (scene == null || people.size() >= 10 || Math.abs((long) voice) > 30 || Math.abs((long) face) > 30
            || land < 0 || land > 399 || land % 100 > 16) {
            return NONE;
        }
        people.add(new Person(voice, face, land % 100, land / 100));
        return people.size() - 1;
    }

    private boolean noPerson(int person) {
        return person < 0 || person >= people.size();
    }

    int who(int person, int what) {
        if (noPerson(person) || what < 0 || what > 3) {
            return VOID;
        }
        Person p = people.get(person);
        return new int[] {p.voice(), p.face(), p.p(), p.land()}[what];
    }

    boolean becomes(int person, int voice, int face, int p) {
        if (noPerson(person) || Math.abs((long) voice) > 30 || Math.abs((long) face) > 30 || p < 0 || p > 16) {
            return false;
        }
        people.set(person, new Person(voice, face, p, people.get(person).land()));
        return true;
    }

    // ---- trials

    /** A trial with all that comes of it. */
    private final class Try {
        final int n = sounds();
        final int voice;
        final int face;
        final int noise;
        final int dark;
        final int late;
        final long p;
        final long v;
        final long f;
        final long[] a = new long[n];
        final long[] see = new long[n];
        long sumA;
        long sumF;
        long sumJ;

        Try(Person person, int couple, int setting, int late) {
            voice = couple / 10;
            face = couple % 10;
            noise = setting / 10;
            dark = setting % 10;
            this.late = late;
            int w = scene.odds()[1];
            int less = late >= 0 ? late / w : -late / Math.max(1, w / 2);
            p = Math.max(0, person.p() - less);
            v = Math.max(1, scene.voice()[0] + person.voice() + scene.voice()[1] * noise);
            f = Math.max(1, scene.face()[0] + person.face() + scene.face()[1] * dark);
            Sound heard = scene.sounds().get(voice);
            Sound seen = scene.sounds().get(face);
            for (int j = 0; j < n; j++) {
                Sound s = scene.sounds().get(j);
                a[j] = Math.max(0, scene.hold()[j] * (v - Math.abs(s.x() - heard.x()) - Math.abs(s.y() - heard.y())));
                see[j] = Math.max(0, f - Math.abs(s.x() - seen.x()));
                sumA += a[j];
                sumF += see[j];
                sumJ += a[j] * see[j];
            }
        }

        long[] weights(int law) {
            long[] w = new long[n];
            switch (law) {
                case 0 -> w = a.clone();
                case 1 -> {
                    for (int j = 0; j < n; j++) {
                        w[j] = scene.hold()[j] * see[j];
                    }
                }
                case 2 -> {
                    long[] one = weights(1);
                    long[] zero = weights(0);
                    BigInteger left = BigInteger.valueOf(top(one)).multiply(BigInteger.valueOf(all(zero)));
                    BigInteger right = BigInteger.valueOf(top(zero)).multiply(BigInteger.valueOf(all(one)));
                    w = left.compareTo(right) > 0 ? one : zero;
                }
                case 3 -> {
                    for (int j = 0; j < n; j++) {
                        w[j] = a[j] * see[j];
                    }
                }
                case 4 -> {
                    for (int j = 0; j < n; j++) {
                        w[j] = p * n * a[j] * see[j] + (16 - p) * sumF * a[j];
                    }
                }
                case 5 -> {
                    Integer said = scene.learn().get(voice + "/" + face);
                    if (said == null) {
                        return weights(4);
                    }
                    w[said] = 1;
                }
                default -> {
                    long x = (scene.sounds().get(voice).x() * f + scene.sounds().get(face).x() * v) / (v + f);
                    int y = scene.sounds().get(voice).y();
                    int near = -1;
                    long least = 99999;
                    for (int j = 0; j < n; j++) {
                        long far = Math.abs(scene.sounds().get(j).x() - x) + Math.abs(scene.sounds().get(j).y() - y);
                        if (far < least) {
                            least = far;
                            near = j;
                        }
                    }
                    w[near] = 1;
                }
            }
            return all(w) == 0 ? a.clone() : w;
        }

        int kind(int said) {
            return voice == face ? (said == voice ? 0 : 3) : said == voice ? 1 : said == face ? 2 : 3;
        }

        int chance(int law, int said) {
            long[] w = weights(law);
            return (int) (1000 * w[said] / all(w));
        }

        int chanceOfKind(int law, int kind) {
            long[] w = weights(law);
            long sum = 0;
            for (int j = 0; j < n; j++) {
                if (kind(j) == kind) {
                    sum += w[j];
                }
            }
            return (int) (1000 * sum / all(w));
        }

        int likely(int law) {
            long[] w = weights(law);
            for (int j = 0; j < n; j++) {
                if (w[j] == top(w)) {
                    return j;
                }
            }
            throw new IllegalStateException();
        }

        int noticed() {
            long apart = (16 - p) * sumA * sumF;
            long both = p * n * sumJ + apart;
            return both == 0 ? 1000 : (int) (1000 * apart / both);
        }

        int parted(int one, int other) {
            long[] w = weights(one);
            long[] z = weights(other);
            BigInteger allW = BigInteger.valueOf(all(w));
            BigInteger allZ = BigInteger.valueOf(all(z));
            BigInteger sum = BigInteger.ZERO;
            for (int j = 0; j < n; j++) {
                sum = sum.add(BigInteger.valueOf(w[j]).multiply(allZ).subtract(BigInteger.valueOf(z[j]).multiply(allW)).abs());
            }
            return sum.multiply(BigInteger.valueOf(500)).divide(allW.multiply(allZ)).intValue();
        }
    }

    private static long all(long[] w) {
        long sum = 0;
        for (long one : w) {
            sum += one;
        }
        return sum;
    }

    private static long top(long[] w) {
        long most = 0;
        for (long one : w) {
            most = Math.max(most, one);
        }
        return most;
    }

    private Try trial(int who, int setting, int late) {
        boolean can = who >= 0 && who / 100 < people.size() && who / 10 % 10 < sounds() && who % 10 < sounds()
            && setting >= 0 && setting < 100 && late > -100 && late < 100;
        return can ? new Try(people.get(who / 100), who % 100, setting, late) : null;
    }

    private static boolean noLaw(int law) {
        return law < 0 || law > 6;
    }

    int weight(int law, int who, int setting, int late, int answer) {
        Try t = trial(who, setting, late);
        if (t == null || noLaw(law) || answer < -1 || answer >= sounds()) {
            return NONE;
        }
        return (int) (answer == NONE ? all(t.weights(law)) : t.weights(law)[answer]);
    }

    int chance(int law, int who, int setting, int late, int answer) {
        Try t = trial(who, setting, late);
        return t == null || noLaw(law) || answer < 0 || answer >= sounds() ? NONE : t.chance(law, answer);
    }

    int kind(int law, int who, int setting, int late, int kind) {
        Try t = trial(who, setting, late);
        return t == null || noLaw(law) || kind < 0 || kind > 3 ? NONE : t.chanceOfKind(law, kind);
    }

    int likely(int law, int who, int setting, int late) {
        Try t = trial(who, setting, late);
        return t == null || noLaw(law) ? NONE : t.likely(law);
    }

    int noticed(int who, int setting, int late) {
        Try t = trial(who, setting, late);
        return t == null ? NONE : t.noticed();
    }

    // ---- answers

    int answer(int who, int setting, int late, int said) {
        if (trial(who, setting, late) == null || said < 0 || said > 199 || said % 100 >= sounds() || answers.size() >= 60) {
            return NONE;
        }
        answers.add(new Answer(who, setting, late, said % 100, said >= 100));
        return answers.size();
    }

    int undo() {
        if (answers.isEmpty()) {
            return NONE;
        }
        answers.remove(answers.size() - 1);
        return answers.size();
    }

    private Try trial(Answer a) {
        return trial(a.who(), a.setting(), a.late());
    }

    int of(int k, int what) {
        if (k < 0 || k >= answers.size() || what < 0 || what > 5) {
            return VOID;
        }
        Answer a = answers.get(k);
        return new int[] {a.who(), a.setting(), a.late(), a.said(), a.noticed() ? 1 : 0, trial(a).kind(a.said())}[what];
    }

    /** A part of a whole. */
    record Fraction(BigInteger part, BigInteger whole) {
        int compare(Fraction other) {
            return part.multiply(other.whole).compareTo(other.part.multiply(whole));
        }
    }

    private Fraction fit(int law, int person, Person as) {
        BigInteger part = BigInteger.ONE;
        BigInteger whole = BigInteger.ONE;
        for (Answer a : answers) {
            if (person == NONE || a.who() / 100 == person) {
                Person one = as == null ? people.get(a.who() / 100) : as;
                long[] w = new Try(one, a.who() % 100, a.setting(), a.late()).weights(law);
                part = part.multiply(BigInteger.valueOf(w[a.said()]));
                whole = whole.multiply(BigInteger.valueOf(all(w)));
            }
        }
        return new Fraction(part, whole);
    }

    int more(int one, int other, int person) {
        if (noLaw(one) || noLaw(other) || (person != NONE && noPerson(person))) {
            return NONE;
        }
        int order = fit(one, person, null).compare(fit(other, person, null));
        return order == 0 ? 0 : order > 0 ? 1 : 2;
    }

    int best(int person) {
        if (scene == null || (person != NONE && noPerson(person))) {
            return NONE;
        }
        int found = 0;
        for (int law = 1; law < 7; law++) {
            if (fit(law, person, null).compare(fit(found, person, null)) > 0) {
                found = law;
            }
        }
        return found;
    }

    int own(int person, int what) {
        if (noPerson(person) || what < 0 || what > 2) {
            return VOID;
        }
        Person now = people.get(person);
        Fraction most = null;
        int[] found = new int[3];
        if (what == 2) {
            for (int p = 0; p <= 16; p++) {
                Fraction fit = fit(4, person, new Person(now.voice(), now.face(), p, 0));
                if (most == null || fit.compare(most) > 0) {
                    most = fit;
                    found[2] = p;
                }
            }
            return found[2];
        }
        for (int v = -12; v <= 12; v++) {
            for (int f = -12; f <= 12; f++) {
                Fraction fit = fit(4, person, new Person(v, f, now.p(), 0));
                int order = most == null ? 1 : fit.compare(most);
                boolean less = Math.abs(v) + Math.abs(f) < Math.abs(found[0]) + Math.abs(found[1]);
                if (order > 0 || (order == 0 && less)) {
                    most = fit;
                    found[0] = v;
                    found[1] = f;
                }
            }
        }
        return found[what];
    }

    private List<Answer> ofLand(int land) {
        List<Answer> all = new ArrayList<>();
        for (Answer a : answers) {
            if (land == NONE || people.get(a.who() / 100).land() == land) {
                all.add(a);
            }
        }
        return all;
    }

    int share(int land, int kind) {
        List<Answer> all = ofLand(land);
        if (kind < 0 || kind > 4 || all.isEmpty()) {
            return NONE;
        }
        int fit = 0;
        for (Answer a : all) {
            if (kind == 4 ? a.noticed() : trial(a).kind(a.said()) == kind) {
                fit++;
            }
        }
        return 1000 * fit / all.size();
    }

    int foretold(int law, int land, int kind) {
        List<Answer> all = ofLand(land);
        if (noLaw(law) || kind < 0 || kind > 4 || all.isEmpty()) {
            return NONE;
        }
        int sum = 0;
        for (Answer a : all) {
            sum += kind == 4 ? trial(a).noticed() : trial(a).chanceOfKind(law, kind);
        }
        return sum / all.size();
    }

    // ---- what comes of trials

    int pairs(int kinds, int person, int setting, int late, int k) {
        if (kinds < 0 || kinds > 36 || kinds % 10 > 6 || noPerson(person) || trial(person * 100, setting, late) == null) {
            return NONE;
        }
        List<Integer> all = new ArrayList<>();
        for (int v = 0; v < sounds(); v++) {
            for (int f = 0; f < sounds(); f++) {
                Try t = trial(person * 100 + v * 10 + f, setting, late);
                if (v != f && t.kind(t.likely(kinds % 10)) == kinds / 10) {
                    all.add(v * 10 + f);
                }
            }
        }
        return k == NONE ? all.size() : k < 0 || k >= all.size() ? NONE : all.get(k);
    }

    int hump(int who, int setting, int side) {
        Try t = trial(who, setting, 0);
        if (t == null || side < 0 || side > 1 || t.chanceOfKind(4, 3) == 0) {
            return NONE;
        }
        int far = 0;
        while (far < 99) {
            Try there = trial(who, setting, side == 0 ? far + 1 : -far - 1);
            if (there.chanceOfKind(4, 3) < t.chanceOfKind(4, 3) / 2.0) {
                break;
            }
            far++;
        }
        return far;
    }

    int right(int law, int person, int setting) {
        if (noLaw(law) || noPerson(person) || trial(person * 100, setting, 0) == null) {
            return NONE;
        }
        int sum = 0;
        for (int s = 0; s < sounds(); s++) {
            sum += trial(person * 100 + s * 10 + s, setting, 0).chance(law, s);
        }
        return sum;
    }

    int worth(int law, int person, int setting) {
        int due = right(law, person, setting);
        if (due == NONE) {
            return NONE;
        }
        for (int noise = setting / 10; noise >= 0; noise--) {
            if (right(0, person, noise * 10 + setting % 10) >= due) {
                return setting / 10 - noise;
            }
        }
        return NONE;
    }

    int parted(int laws, int who, int setting, int late) {
        Try t = trial(who, setting, late);
        return t == null || laws < 0 || laws > 66 || laws % 10 > 6 ? NONE : t.parted(laws / 10, laws % 10);
    }

    int next(int laws, int person, int dark, int what) {
        if (noPerson(person) || laws < 0 || laws > 66 || laws % 10 > 6 || dark < 0 || dark > 9 || what < 0 || what > 1) {
            return NONE;
        }
        int most = -1;
        int where = -1;
        for (int v = 0; v < sounds(); v++) {
            for (int f = 0; f < sounds(); f++) {
                for (int noise = 0; noise < 10; noise++) {
                    int apart = parted(laws, person * 100 + v * 10 + f, noise * 10 + dark, 0);
                    if (apart > most) {
                        most = apart;
                        where = v * 100 + f * 10 + noise;
                    }
                }
            }
        }
        return what == 0 ? where : most;
    }

    int knowing(int law, int who, int setting, int late) {
        Try t = trial(who, setting, late);
        if (t == null || noLaw(law)) {
            return NONE;
        }
        Person p = people.get(who / 100);
        Try known = new Try(new Person(p.voice(), p.face(), 0, 0), who % 100, setting, late);
        return t.likely(law) == known.likely(law) ? 1 : 0;
    }

    int called(int who, int setting, int late, int what) {
        Try t = trial(who, setting, late);
        if (t == null || what < 0 || what > 1) {
            return NONE;
        }
        long[] atoms = {t.chanceOfKind(4, 3), t.noticed(), t.chance(4, t.voice), t.chance(4, t.face), t.noise, t.dark,
            Math.abs(late)};
        for (int k = 0; k < lines.size(); k++) {
            if (lines.get(k).conditions().stream().allMatch(c -> holds(c, atoms))) {
                return what == 0 ? lines.get(k).outcome() : k;
            }
        }
        return NONE;
    }

    // ---- lots and images

    private long x;

    private int lot(long n) {
        BigInteger next = BigInteger.valueOf(x).multiply(BigInteger.valueOf(1103515245)).add(BigInteger.valueOf(12345));
        x = next.mod(BigInteger.ONE.shiftLeft(31)).longValue();
        return (int) (x / 256 % n);
    }

    int draw(int law, int person, int seed, int n) {
        if (noLaw(law) || noPerson(person) || seed < 0 || seed > 1000000 || n < 1 || n > 20 || answers.size() + n > 60) {
            return NONE;
        }
        x = seed;
        for (int k = 0; k < n; k++) {
            int who = person * 100 + lot(sounds()) * 10;
            who += lot(sounds());
            int setting = lot(10) * 10;
            setting += lot(10);
            int late = lot(199) - 99;
            Try t = trial(who, setting, late);
            long[] w = t.weights(law);
            int place = lot(all(w));
            int said = 0;
            while (place >= w[said]) {
                place -= (int) w[said];
                said++;
            }
            answers.add(new Answer(who, setting, late, said, lot(1000) < t.noticed()));
        }
        return answers.size();
    }

    boolean image(int k) {
        if (scene == null || k < 0 || k > 2) {
            return false;
        }
        images[k] = new Image(List.copyOf(people), List.copyOf(answers));
        return true;
    }

    boolean back(int k) {
        if (k < 0 || k > 2 || images[k] == null) {
            return false;
        }
        people = new ArrayList<>(images[k].people());
        answers = new ArrayList<>(images[k].answers());
        return true;
    }
}
