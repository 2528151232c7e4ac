/** Sounds as places: what is heard, seen and said of them, and the people who say it. */
public final class LipsVoice {
    public static final int NONE = -1;
    public static final int VOID = -2147483648;

    private static final int MOST_BYTES = 500;
    private static final int FED_BYTES = 20;
    private static final int MOST_SOUNDS = 9;
    private static final int MOST_COUPLES = 12;
    private static final int MOST_PEOPLE = 10;
    private static final int MOST_ANSWERS = 60;
    private static final int MOST_LINES = 10;
    private static final int MOST_BRACKETS = 8;
    private static final int MOST_DRAWN = 20;
    private static final int IMAGES = 3;

    private static final int LAWS = 7;
    private static final int VOICE_LAW = 0;
    private static final int FACE_LAW = 1;
    private static final int SURER_LAW = 2;
    private static final int ONE_LAW = 3;
    private static final int ODDS_LAW = 4;
    private static final int LEARNT_LAW = 5;
    private static final int BETWEEN_LAW = 6;

    private static final int ALIKE = 0;
    private static final int VOICES = 1;
    private static final int FACES = 2;
    private static final int THIRD = 3;
    private static final int NOTICED = 4;

    private static final int STEPS = 10;
    private static final int MOST_SETTING = 99;
    private static final int MOST_LATE = 99;
    private static final int MOST_CHANGE = 30;
    private static final int OWN_CHANGE = 12;
    private static final int MOST_BELIEF = 16;
    private static final int MOST_LAND = 3;
    private static final int MOST_SEED = 1000000;

    private final Text text;
    private final SceneReader sceneReader;
    private final RulesReader rulesReader;
    private final Sheet sheet;
    private final Sheet[] images;
    private final Trial trial;
    private final Scale scale;
    private final long[] atoms;
    private Scene currentScene;
    private Scene spareScene;
    private Rules currentRules;
    private Rules spareRules;
    private Chances keptChances;
    private Chances triedChances;
    private int ownVoice;
    private int ownFace;
    private long lotState;

    public LipsVoice() {
        text = new Text();
        Tokens tokens = new Tokens(text);
        sheet = new Sheet();
        images = new Sheet[IMAGES];
        for (int k = 0; k < IMAGES; k++) {
            images[k] = new Sheet();
        }
        currentScene = new Scene();
        spareScene = new Scene();
        currentRules = new Rules();
        spareRules = new Rules();
        sceneReader = new SceneReader(tokens, spareScene);
        rulesReader = new RulesReader(tokens, spareRules);
        trial = new Trial(currentScene);
        scale = new Scale();
        atoms = new long[RulesReader.ATOMS];
        keptChances = new Chances();
        triedChances = new Chances();
        ownVoice = 0;
        ownFace = 0;
        lotState = 0;
    }

    // ---- the text and what comes of it

    public int feed(int a, int b, int c, int d, int e) {
        if (text.length + FED_BYTES > MOST_BYTES) {
            return NONE;
        }
        text.add(a);
        text.add(b);
        text.add(c);
        text.add(d);
        text.add(e);
        return text.length;
    }

    public boolean end(int n) {
        if (n < 0 || n > text.length) {
            return false;
        }
        text.length = n;
        return true;
    }

    public int fault(int what) {
        if (what == 0) {
            return sceneReader.read(spareScene);
        }
        if (what == 1) {
            return rulesReader.read(spareRules);
        }
        return VOID;
    }

    public int scene() {
        if (sceneReader.read(spareScene) != NONE) {
            return NONE;
        }
        Scene old = currentScene;
        currentScene = spareScene;
        spareScene = old;
        text.length = 0;
        sheet.begin(currentScene.belief);
        for (int k = 0; k < IMAGES; k++) {
            images[k].there = false;
        }
        return currentScene.sounds;
    }

    public int rules() {
        if (rulesReader.read(spareRules) != NONE) {
            return NONE;
        }
        Rules old = currentRules;
        currentRules = spareRules;
        spareRules = old;
        text.length = 0;
        return currentRules.lines;
    }

    public int sound(int sound, int what) {
        if (!isSound(sound)) {
            return NONE;
        }
        switch (what) {
            case 0:
                return currentScene.x[sound];
            case 1:
                return currentScene.y[sound];
            case 2:
                return currentScene.hold[sound];
            default:
                return NONE;
        }
    }

    public int count(int what) {
        switch (what) {
            case 0:
                return currentScene.sounds;
            case 1:
                return currentScene.couples;
            case 2:
                return sheet.people;
            case 3:
                return sheet.answers;
            case 4:
                return currentRules.lines;
            case 5:
                return hasScene() ? currentScene.belief : 0;
            case 6:
                return hasScene() ? currentScene.window : 0;
            case 7:
                return text.length;
            default:
                return NONE;
        }
    }

    // ---- people

    public int person(int voice, int face, int land) {
        boolean canBe = areChanges(voice, face) && land >= 0 && land / 100 <= MOST_LAND && isBelief(land % 100);
        if (!hasScene() || !canBe || sheet.people >= MOST_PEOPLE) {
            return NONE;
        }
        return sheet.addPerson(voice, face, land % 100, land / 100);
    }

    public int who(int person, int what) {
        if (!isPerson(person)) {
            return VOID;
        }
        switch (what) {
            case 0:
                return sheet.voiceChange[person];
            case 1:
                return sheet.faceChange[person];
            case 2:
                return sheet.belief[person];
            case 3:
                return sheet.land[person];
            default:
                return VOID;
        }
    }

    public boolean becomes(int person, int voice, int face, int p) {
        if (!isPerson(person) || !areChanges(voice, face) || !isBelief(p)) {
            return false;
        }
        sheet.changePerson(person, voice, face, p);
        return true;
    }

    // ---- one trial

    public int weight(int law, int who, int setting, int late, int answer) {
        boolean asked = answer == NONE || isSound(answer);
        if (!asked || !weighs(law, who, setting, late)) {
            return NONE;
        }
        return (int) (answer == NONE ? trial.total : trial.weights[answer]);
    }

    public int chance(int law, int who, int setting, int late, int answer) {
        if (!isSound(answer) || !weighs(law, who, setting, late)) {
            return NONE;
        }
        return trial.chanceOf(answer);
    }

    public int kind(int law, int who, int setting, int late, int kind) {
        if (!isKind(kind) || !weighs(law, who, setting, late)) {
            return NONE;
        }
        return trial.chanceOfKind(kind);
    }

    public int likely(int law, int who, int setting, int late) {
        if (!weighs(law, who, setting, late)) {
            return NONE;
        }
        return trial.mostLikely();
    }

    public int noticed(int who, int setting, int late) {
        if (!isTrial(who, setting, late)) {
            return NONE;
        }
        pose(who, setting, late);
        return trial.chanceNoticed();
    }

    // ---- the sheet of answers

    public int answer(int who, int setting, int late, int said) {
        boolean canBe = isTrial(who, setting, late) && said >= 0 && said / 100 <= 1 && isSound(said % 100);
        if (!canBe || sheet.answers >= MOST_ANSWERS) {
            return NONE;
        }
        sheet.addAnswer(who, setting, late, said % 100, said >= 100);
        return sheet.answers;
    }

    public int undo() {
        if (sheet.answers <= 0) {
            return NONE;
        }
        sheet.answers--;
        return sheet.answers;
    }

    public int of(int k, int what) {
        if (!sheet.isAnswer(k)) {
            return VOID;
        }
        switch (what) {
            case 0:
                return sheet.who[k];
            case 1:
                return sheet.setting[k];
            case 2:
                return sheet.late[k];
            case 3:
                return sheet.said[k];
            case 4:
                return sheet.noticed[k] ? 1 : 0;
            case 5:
                return sheet.kindOfAnswer(k);
            default:
                return VOID;
        }
    }

    public int more(int one, int other, int person) {
        if (!isLaw(one) || !isLaw(other) || !isPersonOrAll(person)) {
            return NONE;
        }
        gather(keptChances, one, person);
        gather(triedChances, other, person);
        int order = scale.compareProducts(keptChances, triedChances);
        if (order == 0) {
            return 0;
        }
        return order > 0 ? 1 : 2;
    }

    public int best(int person) {
        if (!hasScene() || !isPersonOrAll(person)) {
            return NONE;
        }
        int found = 0;
        gather(keptChances, 0, person);
        for (int law = 1; law < LAWS; law++) {
            gather(triedChances, law, person);
            if (keepsTried()) {
                found = law;
            }
        }
        return found;
    }

    public int own(int person, int what) {
        if (!isPerson(person) || what < 0 || what > 2) {
            return VOID;
        }
        if (what == 2) {
            return findOwnOdds(person);
        }
        findOwnSpans(person);
        return what == 0 ? ownVoice : ownFace;
    }

    public int share(int land, int kind) {
        boolean asked = isLandOrAll(land) && (isKind(kind) || kind == NOTICED);
        int all = asked ? countOfLand(land) : 0;
        if (all <= 0) {
            return NONE;
        }
        int fitting = 0;
        for (int k = 0; k < sheet.answers; k++) {
            boolean fits = kind == NOTICED ? sheet.noticed[k] : sheet.kindOfAnswer(k) == kind;
            if (isOfLand(k, land) && fits) {
                fitting++;
            }
        }
        return fitting * 1000 / all;
    }

    public int foretold(int law, int land, int kind) {
        boolean asked = isLaw(law) && isLandOrAll(land) && (isKind(kind) || kind == NOTICED);
        int all = asked ? countOfLand(land) : 0;
        if (all <= 0) {
            return NONE;
        }
        int sum = 0;
        for (int k = 0; k < sheet.answers; k++) {
            if (isOfLand(k, land)) {
                pose(sheet.who[k], sheet.setting[k], sheet.late[k]);
                trial.weigh(law);
                sum += kind == NOTICED ? trial.chanceNoticed() : trial.chanceOfKind(kind);
            }
        }
        return sum / all;
    }

    // ---- what trials tell together

    public int pairs(int kinds, int person, int setting, int late, int k) {
        boolean asked = kinds >= 0 && isKind(kinds / 10) && isLaw(kinds % 10) && k >= NONE;
        if (!asked || !isPerson(person) || !isSetting(setting) || !isLate(late)) {
            return NONE;
        }
        int found = 0;
        for (int voice = 0; voice < currentScene.sounds; voice++) {
            for (int face = 0; face < currentScene.sounds; face++) {
                if (isPair(kinds, person * 100 + voice * 10 + face, setting, late)) {
                    if (found == k) {
                        return voice * 10 + face;
                    }
                    found++;
                }
            }
        }
        return k == NONE ? found : NONE;
    }

    public int hump(int who, int setting, int side) {
        if (side < 0 || side > 1 || !isTrial(who, setting, 0)) {
            return NONE;
        }
        pose(who, setting, 0);
        trial.weigh(ODDS_LAW);
        int top = trial.chanceOfKind(THIRD);
        if (top == 0) {
            return NONE;
        }
        int belief = sheet.belief[who / 100];
        for (int far = 1; far <= MOST_LATE; far++) {
            trial.trustAt(belief, side == 0 ? far : -far);
            trial.weigh(ODDS_LAW);
            if (2 * trial.chanceOfKind(THIRD) < top) {
                return far - 1;
            }
        }
        return MOST_LATE;
    }

    public int right(int law, int person, int setting) {
        if (!isLaw(law) || !isPerson(person) || !isSetting(setting)) {
            return NONE;
        }
        return sumRight(law, person, setting);
    }

    public int worth(int law, int person, int setting) {
        if (!isLaw(law) || !isPerson(person) || !isSetting(setting)) {
            return NONE;
        }
        int wanted = sumRight(law, person, setting);
        int noise = setting / 10;
        for (int less = 0; less <= noise; less++) {
            if (sumRight(VOICE_LAW, person, setting - less * 10) >= wanted) {
                return less;
            }
        }
        return NONE;
    }

    public int parted(int laws, int who, int setting, int late) {
        if (!areLaws(laws) || !isTrial(who, setting, late)) {
            return NONE;
        }
        pose(who, setting, late);
        return trial.partedBy(laws / 10, laws % 10);
    }

    public int next(int laws, int person, int dark, int what) {
        boolean asked = areLaws(laws) && dark >= 0 && dark < STEPS && (what == 0 || what == 1);
        if (!asked || !isPerson(person)) {
            return NONE;
        }
        int most = NONE;
        int found = NONE;
        for (int voice = 0; voice < currentScene.sounds; voice++) {
            for (int face = 0; face < currentScene.sounds; face++) {
                for (int noise = 0; noise < STEPS; noise++) {
                    pose(person * 100 + voice * 10 + face, noise * 10 + dark, 0);
                    int apart = trial.partedBy(laws / 10, laws % 10);
                    if (apart > most) {
                        most = apart;
                        found = voice * 100 + face * 10 + noise;
                    }
                }
            }
        }
        return what == 0 ? found : most;
    }

    public int knowing(int law, int who, int setting, int late) {
        if (!weighs(law, who, setting, late)) {
            return NONE;
        }
        int before = trial.mostLikely();
        trial.trustAt(0, late);
        trial.weigh(law);
        return trial.mostLikely() == before ? 1 : 0;
    }

    public int called(int who, int setting, int late, int what) {
        if ((what != 0 && what != 1) || !isTrial(who, setting, late)) {
            return NONE;
        }
        pose(who, setting, late);
        fillAtoms(late);
        for (int line = 0; line < currentRules.lines; line++) {
            if (currentRules.holds(line, atoms)) {
                return what == 0 ? currentRules.outcome[line] : line;
            }
        }
        return NONE;
    }

    // ---- lots and images

    public int draw(int law, int person, int seed, int n) {
        boolean asked = isLaw(law) && isPerson(person) && seed >= 0 && seed <= MOST_SEED;
        if (!asked || n < 1 || n > MOST_DRAWN || sheet.answers + n > MOST_ANSWERS) {
            return NONE;
        }
        lotState = seed;
        for (int k = 0; k < n; k++) {
            drawAnswer(law, person);
        }
        return sheet.answers;
    }

    public boolean image(int k) {
        if (!hasScene() || k < 0 || k >= IMAGES) {
            return false;
        }
        images[k].copyFrom(sheet);
        images[k].there = true;
        return true;
    }

    public boolean back(int k) {
        if (k < 0 || k >= IMAGES || !images[k].there) {
            return false;
        }
        sheet.copyFrom(images[k]);
        return true;
    }

    // ---- what can be

    private boolean hasScene() {
        return currentScene.sounds > 0;
    }

    private boolean isSound(int sound) {
        return sound >= 0 && sound < currentScene.sounds;
    }

    private boolean isPerson(int person) {
        return person >= 0 && person < sheet.people;
    }

    private boolean isPersonOrAll(int person) {
        return person == NONE || isPerson(person);
    }

    private boolean isTrial(int who, int setting, int late) {
        boolean isWho = who >= 0 && isPerson(who / 100) && isSound(who / 10 % 10) && isSound(who % 10);
        return isWho && isSetting(setting) && isLate(late);
    }

    private static boolean isSetting(int setting) {
        return setting >= 0 && setting <= MOST_SETTING;
    }

    private static boolean isLate(int late) {
        return late >= -MOST_LATE && late <= MOST_LATE;
    }

    private static boolean isLaw(int law) {
        return law >= 0 && law < LAWS;
    }

    private static boolean areLaws(int laws) {
        return laws >= 0 && isLaw(laws / 10) && isLaw(laws % 10);
    }

    private static boolean isKind(int kind) {
        return kind >= ALIKE && kind <= THIRD;
    }

    private static boolean isLandOrAll(int land) {
        return land >= NONE && land <= MOST_LAND;
    }

    private static boolean isBelief(int p) {
        return p >= 0 && p <= MOST_BELIEF;
    }

    private static boolean areChanges(int voice, int face) {
        return voice >= -MOST_CHANGE && voice <= MOST_CHANGE && face >= -MOST_CHANGE && face <= MOST_CHANGE;
    }

    private static int kindOfSaid(int voice, int face, int said) {
        if (voice == face) {
            return said == voice ? ALIKE : THIRD;
        }
        if (said == voice) {
            return VOICES;
        }
        return said == face ? FACES : THIRD;
    }

    private static int ofThousand(long part, long whole) {
        return whole <= 0 ? 0 : (int) (part * 1000 / whole);
    }

    // ---- trials that can be

    private void pose(int who, int setting, int late) {
        int person = who / 100;
        poseAs(who, setting, sheet.voiceChange[person], sheet.faceChange[person]);
        trial.trustAt(sheet.belief[person], late);
    }

    private void poseAs(int who, int setting, int voiceChange, int faceChange) {
        trial.place(currentScene, who % 100, setting);
        trial.spread(voiceChange, faceChange);
    }

    private boolean weighs(int law, int who, int setting, int late) {
        if (!isLaw(law) || !isTrial(who, setting, late)) {
            return false;
        }
        pose(who, setting, late);
        trial.weigh(law);
        return true;
    }

    private boolean isPair(int kinds, int who, int setting, int late) {
        int voice = who / 10 % 10;
        int face = who % 10;
        if (voice == face) {
            return false;
        }
        pose(who, setting, late);
        trial.weigh(kinds % 10);
        return kindOfSaid(voice, face, trial.mostLikely()) == kinds / 10;
    }

    private int sumRight(int law, int person, int setting) {
        int sum = 0;
        for (int sound = 0; sound < currentScene.sounds; sound++) {
            pose(person * 100 + sound * 11, setting, 0);
            trial.weigh(law);
            sum += trial.chanceOf(sound);
        }
        return sum;
    }

    private void fillAtoms(int late) {
        trial.weigh(ODDS_LAW);
        atoms[RulesReader.THIRD_ATOM] = trial.chanceOfKind(THIRD);
        atoms[RulesReader.NOTICED_ATOM] = trial.chanceNoticed();
        atoms[RulesReader.VOICE_ATOM] = trial.chanceOf(trial.voice);
        atoms[RulesReader.FACE_ATOM] = trial.chanceOf(trial.face);
        atoms[RulesReader.NOISE_ATOM] = trial.noise;
        atoms[RulesReader.DARK_ATOM] = trial.dark;
        atoms[RulesReader.LATE_ATOM] = Math.abs(late);
    }

    // ---- how laws fit

    private boolean isOfLand(int k, int land) {
        return land == NONE || sheet.land[sheet.who[k] / 100] == land;
    }

    private int countOfLand(int land) {
        int all = 0;
        for (int k = 0; k < sheet.answers; k++) {
            if (isOfLand(k, land)) {
                all++;
            }
        }
        return all;
    }

    private void gather(Chances into, int law, int person) {
        into.size = 0;
        for (int k = 0; k < sheet.answers; k++) {
            if (person == NONE || sheet.who[k] / 100 == person) {
                pose(sheet.who[k], sheet.setting[k], sheet.late[k]);
                trial.weigh(law);
                into.add(trial.weights[sheet.said[k]], trial.total);
            }
        }
    }

    private void gatherOdds(Chances into, int person, int voiceChange, int faceChange, int belief) {
        into.size = 0;
        for (int k = 0; k < sheet.answers; k++) {
            if (sheet.who[k] / 100 == person) {
                poseAs(sheet.who[k], sheet.setting[k], voiceChange, faceChange);
                trial.trustAt(belief, sheet.late[k]);
                trial.weigh(ODDS_LAW);
                into.add(trial.weights[sheet.said[k]], trial.total);
            }
        }
    }

    private boolean keepsTried() {
        if (scale.compareProducts(triedChances, keptChances) <= 0) {
            return false;
        }
        Chances old = keptChances;
        keptChances = triedChances;
        triedChances = old;
        return true;
    }

    private int findOwnOdds(int person) {
        int voice = sheet.voiceChange[person];
        int face = sheet.faceChange[person];
        int found = 0;
        gatherOdds(keptChances, person, voice, face, 0);
        for (int belief = 1; belief <= MOST_BELIEF; belief++) {
            gatherOdds(triedChances, person, voice, face, belief);
            if (keepsTried()) {
                found = belief;
            }
        }
        return found;
    }

    // In the order of the ties (sum without signs, VOICE's, FACE's), so that only a better fit takes the place.
    private void findOwnSpans(int person) {
        ownVoice = 0;
        ownFace = 0;
        gatherOdds(keptChances, person, 0, 0, sheet.belief[person]);
        for (int sum = 1; sum <= 2 * OWN_CHANGE; sum++) {
            for (int voice = -OWN_CHANGE; voice <= OWN_CHANGE; voice++) {
                int face = sum - Math.abs(voice);
                if (face >= 0 && face <= OWN_CHANGE) {
                    trySpans(person, voice, -face);
                }
                if (face > 0 && face <= OWN_CHANGE) {
                    trySpans(person, voice, face);
                }
            }
        }
    }

    private void trySpans(int person, int voice, int face) {
        gatherOdds(triedChances, person, voice, face, sheet.belief[person]);
        if (keepsTried()) {
            ownVoice = voice;
            ownFace = face;
        }
    }

    // ---- lots

    private int lotBelow(long n) {
        lotState = (lotState * 1103515245L + 12345L) & 0x7fffffffL;
        return n <= 0 ? 0 : (int) (lotState / 256 % n);
    }

    private void drawAnswer(int law, int person) {
        int voice = lotBelow(currentScene.sounds);
        int face = lotBelow(currentScene.sounds);
        int noise = lotBelow(STEPS);
        int dark = lotBelow(STEPS);
        int late = lotBelow(2 * MOST_LATE + 1) - MOST_LATE;
        int who = person * 100 + voice * 10 + face;
        int setting = noise * 10 + dark;
        pose(who, setting, late);
        trial.weigh(law);
        int said = trial.saidAt(lotBelow(trial.total));
        boolean isNoticed = lotBelow(1000) < trial.chanceNoticed();
        sheet.addAnswer(who, setting, late, said, isNoticed);
    }

    // ---- classes

    private static final class Text {
        final int[] bytes = new int[MOST_BYTES];
        int length = 0;

        void add(int number) {
            for (int shift = 24; shift >= 0; shift -= 8) {
                if (length < bytes.length) {
                    bytes[length] = (number >>> shift) & 255;
                    length++;
                }
            }
        }
    }

    private static final class Tokens {
        static final int END = 0;
        static final int WORD = 1;
        static final int NUMBER = 2;
        static final int SIGN = 3;
        private static final int BLANK = 4;

        // Words as their letters' bytes in one number: two of them are compared without making a String.
        static final long SOUND_WORD = 0x736f756e64L;
        static final long VOICE_WORD = 0x766f696365L;
        static final long FACE_WORD = 0x66616365L;
        static final long ODDS_WORD = 0x6f646473L;
        static final long HOLD_WORD = 0x686f6c64L;
        static final long LEARN_WORD = 0x6c6561726eL;
        static final long CALL_WORD = 0x63616c6cL;
        static final long IF_WORD = 0x6966L;
        static final long AND_WORD = 0x616e64L;
        static final long FUSED_WORD = 0x6675736564L;
        static final long APART_WORD = 0x6170617274L;
        static final long HEARD_WORD = 0x6865617264L;
        static final long SEEN_WORD = 0x7365656eL;
        static final long THIRD_WORD = 0x7468697264L;
        static final long NOTICED_WORD = 0x6e6f7469636564L;
        static final long NOISE_WORD = 0x6e6f697365L;
        static final long DARK_WORD = 0x6461726bL;
        static final long LATE_WORD = 0x6c617465L;

        private static final int LONGEST_WORD = 8;
        private static final long TOO_LONG = 0;
        private static final long TOO_GREAT = 1000000;

        final Text text;
        int sort;
        int place;
        long value;
        private int stop;

        Tokens(Text text) {
            this.text = text;
            sort = END;
            place = 0;
            value = 0;
            stop = 0;
        }

        void begin() {
            stop = 0;
            step();
        }

        void step() {
            place = stop;
            while (place < text.length && sortOf(text.bytes[place]) == BLANK) {
                place++;
            }
            stop = place;
            value = 0;
            sort = place < text.length ? sortOf(text.bytes[place]) : END;
            int end = sort == SIGN ? place + 1 : text.length;
            while (stop < end && sortOf(text.bytes[stop]) == sort) {
                take(text.bytes[stop]);
                stop++;
            }
            if (sort == WORD && stop - place > LONGEST_WORD) {
                value = TOO_LONG;
            }
        }

        private void take(int one) {
            if (sort == WORD) {
                value = (value << 8) | one;
            } else if (sort == NUMBER) {
                value = value * 10 + one - '0';
                value = value > TOO_GREAT ? TOO_GREAT : value;
            } else {
                value = one;
            }
        }

        // A byte that begins no token stands nowhere, as a sign that is asked for nowhere does.
        private static int sortOf(int one) {
            if (one >= 'a' && one <= 'z') {
                return WORD;
            }
            if (one >= '0' && one <= '9') {
                return NUMBER;
            }
            return one == 32 || one == 10 ? BLANK : SIGN;
        }

        boolean isWord(long word) {
            return sort == WORD && value == word;
        }

        boolean isSign(int sign) {
            return sort == SIGN && value == sign;
        }

        boolean isNumber(int least, int greatest) {
            return sort == NUMBER && value >= least && value <= greatest;
        }

        boolean isName() {
            boolean isKey = value == SOUND_WORD || value == VOICE_WORD || value == FACE_WORD
                || value == ODDS_WORD || value == HOLD_WORD || value == LEARN_WORD;
            return sort == WORD && value != TOO_LONG && !isKey;
        }
    }

    private static final class Scene {
        int sounds;
        final int[] x = new int[MOST_SOUNDS];
        final int[] y = new int[MOST_SOUNDS];
        final int[] hold = new int[MOST_SOUNDS];
        int voiceSpan;
        int voiceGain;
        int faceSpan;
        int faceGain;
        int belief;
        int window;
        int couples;
        final int[] couple = new int[MOST_COUPLES];
        final int[] learnt = new int[MOST_COUPLES];

        void clear() {
            sounds = 0;
            voiceSpan = 0;
            voiceGain = 0;
            faceSpan = 0;
            faceGain = 0;
            belief = MOST_BELIEF;
            window = 99;
            couples = 0;
        }

        boolean isTaken(int px, int py) {
            for (int j = 0; j < sounds; j++) {
                if (x[j] == px && y[j] == py) {
                    return true;
                }
            }
            return false;
        }

        int learntOf(int voice, int face) {
            for (int k = 0; k < couples; k++) {
                if (couple[k] == voice * 10 + face) {
                    return learnt[k];
                }
            }
            return NONE;
        }

        boolean isWhole() {
            return sounds >= 2 && voiceSpan > 0 && faceSpan > 0;
        }
    }

    // Reads as far as the words stand: the token that is looked at when a step says no is the fault.
    private static final class SceneReader {
        private final Tokens tokens;
        private final long[] names;
        private final boolean[] held;
        private Scene scene;
        private boolean hasOdds;
        private int first;
        private int second;

        SceneReader(Tokens tokens, Scene scene) {
            this.tokens = tokens;
            names = new long[MOST_SOUNDS];
            held = new boolean[MOST_SOUNDS];
            this.scene = scene;
            hasOdds = false;
            first = 0;
            second = 0;
        }

        int read(Scene into) {
            scene = into;
            scene.clear();
            hasOdds = false;
            tokens.begin();
            boolean stands = true;
            for (int k = 0; k < MOST_BYTES && stands && tokens.sort != Tokens.END; k++) {
                stands = readStatement();
            }
            return stands && scene.isWhole() ? NONE : tokens.place;
        }

        private boolean readStatement() {
            if (tokens.isWord(Tokens.SOUND_WORD)) {
                return readSound();
            }
            if (tokens.isWord(Tokens.VOICE_WORD)) {
                return readVoice();
            }
            if (tokens.isWord(Tokens.FACE_WORD)) {
                return readFace();
            }
            if (tokens.isWord(Tokens.ODDS_WORD)) {
                return readOdds();
            }
            if (tokens.isWord(Tokens.HOLD_WORD)) {
                return readHold();
            }
            return tokens.isWord(Tokens.LEARN_WORD) && readLearn();
        }

        private boolean readSound() {
            int sound = scene.sounds;
            if (sound >= MOST_SOUNDS) {
                return false;
            }
            tokens.step();
            if (!tokens.isName() || findName() != NONE) {
                return false;
            }
            names[sound] = tokens.value;
            tokens.step();
            if (!tokens.isNumber(0, 99)) {
                return false;
            }
            int x = (int) tokens.value;
            tokens.step();
            if (!tokens.isNumber(0, 99) || scene.isTaken(x, (int) tokens.value)) {
                return false;
            }
            scene.x[sound] = x;
            scene.y[sound] = (int) tokens.value;
            scene.hold[sound] = 1;
            held[sound] = false;
            scene.sounds = sound + 1;
            tokens.step();
            return closes();
        }

        private boolean readVoice() {
            if (scene.voiceSpan > 0 || !readNumbers(1, 60, 0, 9)) {
                return false;
            }
            scene.voiceSpan = first;
            scene.voiceGain = second;
            return closes();
        }

        private boolean readFace() {
            if (scene.faceSpan > 0 || !readNumbers(1, 60, 0, 9)) {
                return false;
            }
            scene.faceSpan = first;
            scene.faceGain = second;
            return closes();
        }

        private boolean readOdds() {
            if (hasOdds || !readNumbers(0, MOST_BELIEF, 1, 99)) {
                return false;
            }
            hasOdds = true;
            scene.belief = first;
            scene.window = second;
            return closes();
        }

        private boolean readHold() {
            tokens.step();
            int sound = findName();
            if (sound == NONE || held[sound]) {
                return false;
            }
            tokens.step();
            if (!tokens.isNumber(1, 9)) {
                return false;
            }
            held[sound] = true;
            scene.hold[sound] = (int) tokens.value;
            tokens.step();
            return closes();
        }

        private boolean readLearn() {
            int couple = scene.couples;
            if (couple >= MOST_COUPLES) {
                return false;
            }
            tokens.step();
            int voice = findName();
            if (voice == NONE) {
                return false;
            }
            tokens.step();
            int face = findName();
            if (face == NONE || scene.learntOf(voice, face) != NONE) {
                return false;
            }
            tokens.step();
            int said = findName();
            if (said == NONE) {
                return false;
            }
            scene.couple[couple] = voice * 10 + face;
            scene.learnt[couple] = said;
            scene.couples = couple + 1;
            tokens.step();
            return closes();
        }

        private boolean readNumbers(int least, int greatest, int leastSecond, int greatestSecond) {
            tokens.step();
            if (!tokens.isNumber(least, greatest)) {
                return false;
            }
            first = (int) tokens.value;
            tokens.step();
            if (!tokens.isNumber(leastSecond, greatestSecond)) {
                return false;
            }
            second = (int) tokens.value;
            tokens.step();
            return true;
        }

        private boolean closes() {
            if (!tokens.isSign(';')) {
                return false;
            }
            tokens.step();
            return true;
        }

        private int findName() {
            if (tokens.isName()) {
                for (int j = 0; j < scene.sounds; j++) {
                    if (names[j] == tokens.value) {
                        return j;
                    }
                }
            }
            return NONE;
        }
    }

    // Lines are kept as codes for a stack, so that a trial is called without reading the text again.
    private static final class Rules {
        static final int ATOM_CODES = 10000;
        static final int SIGN_CODES = 20000;

        private static final int STACK = 64;
        private static final long BOUND = 1000000;

        int lines = 0;
        final int[] outcome = new int[MOST_LINES];
        private final int[] from = new int[MOST_LINES];
        private final int[] to = new int[MOST_LINES];
        private final int[] codes = new int[MOST_BYTES];
        private int size = 0;
        private final long[] stack = new long[STACK];
        private int height = 0;

        void clear() {
            lines = 0;
            size = 0;
        }

        void beginLine(int outcomeOfLine) {
            if (lines < MOST_LINES) {
                outcome[lines] = outcomeOfLine;
                from[lines] = size;
            }
        }

        void endLine() {
            if (lines < MOST_LINES) {
                to[lines] = size;
                lines++;
            }
        }

        void emit(int code) {
            if (size < codes.length) {
                codes[size] = code;
                size++;
            }
        }

        boolean holds(int line, long[] atoms) {
            height = 0;
            for (int k = from[line]; k < to[line]; k++) {
                int code = codes[k];
                if (code < ATOM_CODES) {
                    push(code);
                } else if (code < SIGN_CODES) {
                    int atom = code - ATOM_CODES;
                    push(atom < atoms.length ? atoms[atom] : 0);
                } else if (!applies(code - SIGN_CODES)) {
                    return false;
                }
            }
            return true;
        }

        private boolean applies(int sign) {
            long right = pop();
            long left = pop();
            switch (sign) {
                case '+':
                    push(bounded(left + right));
                    return true;
                case '-':
                    push(bounded(left - right));
                    return true;
                case '*':
                    push(bounded(left * right));
                    return true;
                case '<':
                    return left < right;
                default:
                    return left == right;
            }
        }

        private void push(long value) {
            if (height < STACK) {
                stack[height] = value;
                height++;
            }
        }

        private long pop() {
            if (height <= 0) {
                return 0;
            }
            height--;
            return stack[height];
        }

        private static long bounded(long value) {
            return Math.max(-BOUND, Math.min(BOUND, value));
        }
    }

    private static final class RulesReader {
        static final int THIRD_ATOM = 0;
        static final int NOTICED_ATOM = 1;
        static final int VOICE_ATOM = 2;
        static final int FACE_ATOM = 3;
        static final int NOISE_ATOM = 4;
        static final int DARK_ATOM = 5;
        static final int LATE_ATOM = 6;
        static final int ATOMS = 7;

        private static final int GREATEST_NUMBER = 9999;

        private final Tokens tokens;
        private Rules rules;

        RulesReader(Tokens tokens, Rules rules) {
            this.tokens = tokens;
            this.rules = rules;
        }

        int read(Rules into) {
            rules = into;
            rules.clear();
            tokens.begin();
            boolean stands = readLine();
            for (int k = 0; k < MOST_BYTES && stands && tokens.sort != Tokens.END; k++) {
                stands = readLine();
            }
            return stands ? NONE : tokens.place;
        }

        private boolean readLine() {
            if (!readHead()) {
                return false;
            }
            boolean goesOn = true;
            for (int k = 0; k < MOST_BYTES && goesOn; k++) {
                tokens.step();
                if (!readSum(0) || !isComparison()) {
                    return false;
                }
                int sign = (int) tokens.value;
                tokens.step();
                if (!readSum(0)) {
                    return false;
                }
                rules.emit(Rules.SIGN_CODES + sign);
                goesOn = tokens.isWord(Tokens.AND_WORD);
            }
            if (!tokens.isSign(';')) {
                return false;
            }
            rules.endLine();
            tokens.step();
            return true;
        }

        private boolean readHead() {
            if (!tokens.isWord(Tokens.CALL_WORD) || rules.lines >= MOST_LINES) {
                return false;
            }
            tokens.step();
            int outcome = outcomeOfWord();
            if (outcome == NONE) {
                return false;
            }
            rules.beginLine(outcome);
            tokens.step();
            return tokens.isWord(Tokens.IF_WORD);
        }

        private boolean isComparison() {
            return tokens.isSign('<') || tokens.isSign('=');
        }

        private boolean readSum(int depth) {
            if (!readProduct(depth)) {
                return false;
            }
            for (int k = 0; k < MOST_BYTES && (tokens.isSign('+') || tokens.isSign('-')); k++) {
                int sign = (int) tokens.value;
                tokens.step();
                if (!readProduct(depth)) {
                    return false;
                }
                rules.emit(Rules.SIGN_CODES + sign);
            }
            return true;
        }

        private boolean readProduct(int depth) {
            if (!readFactor(depth)) {
                return false;
            }
            for (int k = 0; k < MOST_BYTES && tokens.isSign('*'); k++) {
                tokens.step();
                if (!readFactor(depth)) {
                    return false;
                }
                rules.emit(Rules.SIGN_CODES + '*');
            }
            return true;
        }

        private boolean readFactor(int depth) {
            int code = codeOfToken();
            if (code != NONE) {
                rules.emit(code);
                tokens.step();
                return true;
            }
            if (depth >= MOST_BRACKETS || !tokens.isSign('(')) {
                return false;
            }
            tokens.step();
            if (!readSum(depth + 1) || !tokens.isSign(')')) {
                return false;
            }
            tokens.step();
            return true;
        }

        private int outcomeOfWord() {
            if (tokens.isWord(Tokens.FUSED_WORD)) {
                return 0;
            }
            if (tokens.isWord(Tokens.APART_WORD)) {
                return 1;
            }
            if (tokens.isWord(Tokens.HEARD_WORD)) {
                return 2;
            }
            return tokens.isWord(Tokens.SEEN_WORD) ? 3 : NONE;
        }

        private int codeOfToken() {
            if (tokens.isNumber(0, GREATEST_NUMBER)) {
                return (int) tokens.value;
            }
            if (tokens.isWord(Tokens.THIRD_WORD)) {
                return Rules.ATOM_CODES + THIRD_ATOM;
            }
            if (tokens.isWord(Tokens.NOTICED_WORD)) {
                return Rules.ATOM_CODES + NOTICED_ATOM;
            }
            if (tokens.isWord(Tokens.VOICE_WORD)) {
                return Rules.ATOM_CODES + VOICE_ATOM;
            }
            if (tokens.isWord(Tokens.FACE_WORD)) {
                return Rules.ATOM_CODES + FACE_ATOM;
            }
            if (tokens.isWord(Tokens.NOISE_WORD)) {
                return Rules.ATOM_CODES + NOISE_ATOM;
            }
            if (tokens.isWord(Tokens.DARK_WORD)) {
                return Rules.ATOM_CODES + DARK_ATOM;
            }
            return tokens.isWord(Tokens.LATE_WORD) ? Rules.ATOM_CODES + LATE_ATOM : NONE;
        }
    }

    private static final class Sheet {
        boolean there = false;
        int people = 0;
        final int[] voiceChange = new int[MOST_PEOPLE];
        final int[] faceChange = new int[MOST_PEOPLE];
        final int[] belief = new int[MOST_PEOPLE];
        final int[] land = new int[MOST_PEOPLE];
        int answers = 0;
        final int[] who = new int[MOST_ANSWERS];
        final int[] setting = new int[MOST_ANSWERS];
        final int[] late = new int[MOST_ANSWERS];
        final int[] said = new int[MOST_ANSWERS];
        final boolean[] noticed = new boolean[MOST_ANSWERS];

        void begin(int beliefOfAll) {
            people = 0;
            answers = 0;
            addPerson(0, 0, beliefOfAll, 0);
        }

        int addPerson(int voice, int face, int p, int home) {
            if (people >= MOST_PEOPLE) {
                return NONE;
            }
            land[people] = home;
            changePerson(people, voice, face, p);
            people++;
            return people - 1;
        }

        void changePerson(int one, int voice, int face, int p) {
            voiceChange[one] = voice;
            faceChange[one] = face;
            belief[one] = p;
        }

        boolean isAnswer(int k) {
            return k >= 0 && k < answers;
        }

        void addAnswer(int whoSaid, int settingThen, int lateThen, int saidThen, boolean wasNoticed) {
            if (answers < MOST_ANSWERS) {
                who[answers] = whoSaid;
                setting[answers] = settingThen;
                late[answers] = lateThen;
                said[answers] = saidThen;
                noticed[answers] = wasNoticed;
                answers++;
            }
        }

        int kindOfAnswer(int k) {
            return kindOfSaid(who[k] / 10 % 10, who[k] % 10, said[k]);
        }

        void copyFrom(Sheet other) {
            people = other.people;
            for (int k = 0; k < people; k++) {
                voiceChange[k] = other.voiceChange[k];
                faceChange[k] = other.faceChange[k];
                belief[k] = other.belief[k];
                land[k] = other.land[k];
            }
            answers = other.answers;
            for (int k = 0; k < answers; k++) {
                who[k] = other.who[k];
                setting[k] = other.setting[k];
                late[k] = other.late[k];
                said[k] = other.said[k];
                noticed[k] = other.noticed[k];
            }
        }
    }

    private static final class Trial {
        private Scene scene;
        int voice = 0;
        int face = 0;
        int noise = 0;
        int dark = 0;
        private int voiceSpan = 1;
        private int faceSpan = 1;
        private long trust = 0;
        private final long[] heard = new long[MOST_SOUNDS];
        private final long[] seen = new long[MOST_SOUNDS];
        private long heardSum = 0;
        private long seenSum = 0;
        private long bothSum = 0;
        long[] weights = new long[MOST_SOUNDS];
        long total = 0;
        private long[] otherWeights = new long[MOST_SOUNDS];

        Trial(Scene scene) {
            this.scene = scene;
        }

        void place(Scene of, int couple, int setting) {
            scene = of;
            voice = couple / 10;
            face = couple % 10;
            noise = setting / 10;
            dark = setting % 10;
        }

        void spread(int voiceChange, int faceChange) {
            voiceSpan = Math.max(1, scene.voiceSpan + voiceChange + scene.voiceGain * noise);
            faceSpan = Math.max(1, scene.faceSpan + faceChange + scene.faceGain * dark);
            heardSum = 0;
            seenSum = 0;
            bothSum = 0;
            for (int j = 0; j < scene.sounds; j++) {
                int fromFace = Math.abs(scene.x[j] - scene.x[face]);
                long a = scene.hold[j] * Math.max(0, voiceSpan - farFrom(j, scene.x[voice], scene.y[voice]));
                long f = Math.max(0, faceSpan - fromFace);
                heard[j] = a;
                seen[j] = f;
                heardSum += a;
                seenSum += f;
                bothSum += a * f;
            }
        }

        void trustAt(int belief, int late) {
            int lost = late >= 0 ? late / Math.max(1, scene.window) : -late / Math.max(1, scene.window / 2);
            trust = Math.max(0, belief - lost);
        }

        void weigh(int law) {
            switch (law) {
                case FACE_LAW:
                    weighFace();
                    break;
                case SURER_LAW:
                    weighSurer();
                    break;
                case ONE_LAW:
                    weighOne();
                    break;
                case ODDS_LAW:
                    weighOdds();
                    break;
                case LEARNT_LAW:
                    weighLearnt();
                    break;
                case BETWEEN_LAW:
                    weighSingle(soundBetween());
                    break;
                default:
                    weighVoice();
                    break;
            }
        }

        private void weighVoice() {
            for (int j = 0; j < scene.sounds; j++) {
                weights[j] = heard[j];
            }
            total = heardSum;
        }

        private void weighFace() {
            total = 0;
            for (int j = 0; j < scene.sounds; j++) {
                weights[j] = scene.hold[j] * seen[j];
                total += weights[j];
            }
        }

        private void weighSurer() {
            weighFace();
            long faceTop = greatestWeight();
            long faceTotal = total;
            weighVoice();
            if (faceTop * total > greatestWeight() * faceTotal) {
                weighFace();
            }
        }

        private void weighOne() {
            if (bothSum == 0) {
                weighVoice();
                return;
            }
            for (int j = 0; j < scene.sounds; j++) {
                weights[j] = heard[j] * seen[j];
            }
            total = bothSum;
        }

        private void weighOdds() {
            long together = trust * scene.sounds;
            long apart = (MOST_BELIEF - trust) * seenSum;
            total = together * bothSum + apart * heardSum;
            if (total == 0) {
                weighVoice();
                return;
            }
            for (int j = 0; j < scene.sounds; j++) {
                weights[j] = heard[j] * (together * seen[j] + apart);
            }
        }

        private void weighLearnt() {
            int said = scene.learntOf(voice, face);
            if (said == NONE) {
                weighOdds();
            } else {
                weighSingle(said);
            }
        }

        private void weighSingle(int said) {
            for (int j = 0; j < scene.sounds; j++) {
                weights[j] = j == said ? 1 : 0;
            }
            total = 1;
        }

        private int soundBetween() {
            int spans = Math.max(1, voiceSpan + faceSpan);
            int x = (scene.x[voice] * faceSpan + scene.x[face] * voiceSpan) / spans;
            int nearest = 0;
            for (int j = 1; j < scene.sounds; j++) {
                if (farFrom(j, x, scene.y[voice]) < farFrom(nearest, x, scene.y[voice])) {
                    nearest = j;
                }
            }
            return nearest;
        }

        private int farFrom(int sound, int x, int y) {
            return Math.abs(scene.x[sound] - x) + Math.abs(scene.y[sound] - y);
        }

        private long greatestWeight() {
            return weights[mostLikely()];
        }

        int mostLikely() {
            int found = 0;
            for (int j = 1; j < scene.sounds; j++) {
                if (weights[j] > weights[found]) {
                    found = j;
                }
            }
            return found;
        }

        int chanceOf(int said) {
            return ofThousand(weights[said], total);
        }

        int chanceOfKind(int kind) {
            long sum = 0;
            for (int j = 0; j < scene.sounds; j++) {
                if (kindOfSaid(voice, face, j) == kind) {
                    sum += weights[j];
                }
            }
            return ofThousand(sum, total);
        }

        int chanceNoticed() {
            long together = trust * scene.sounds * bothSum;
            long apart = (MOST_BELIEF - trust) * heardSum * seenSum;
            return together + apart == 0 ? 1000 : ofThousand(apart, together + apart);
        }

        // The greatest two unlike sums, ODDS by ONE, stay below 2 to the 50th: a thousand times that is a long still.
        int partedBy(int one, int other) {
            weigh(one);
            long[] kept = weights;
            weights = otherWeights;
            otherWeights = kept;
            long keptTotal = total;
            weigh(other);
            long apart = 0;
            for (int j = 0; j < scene.sounds; j++) {
                apart += Math.abs(weights[j] * keptTotal - otherWeights[j] * total);
            }
            return ofThousand(apart, 2 * total * keptTotal);
        }

        int saidAt(long lot) {
            long sum = 0;
            for (int j = 0; j < scene.sounds; j++) {
                sum += weights[j];
                if (sum > lot) {
                    return j;
                }
            }
            return 0;
        }
    }

    private static final class Chances {
        int size = 0;
        final long[] parts = new long[MOST_ANSWERS];
        final long[] wholes = new long[MOST_ANSWERS];

        void add(long part, long whole) {
            if (size < MOST_ANSWERS) {
                parts[size] = part;
                wholes[size] = whole;
                size++;
            }
        }

        boolean isNever() {
            for (int k = 0; k < size; k++) {
                if (parts[k] <= 0) {
                    return true;
                }
            }
            return false;
        }
    }

    private static final class Scale {
        private final Product one = new Product();
        private final Product other = new Product();

        int compareProducts(Chances left, Chances right) {
            boolean leftNever = left.isNever();
            boolean rightNever = right.isNever();
            if (leftNever || rightNever) {
                return (rightNever ? 1 : 0) - (leftNever ? 1 : 0);
            }
            int size = Math.min(left.size, right.size);
            double quotient = roughQuotient(left, right, size);
            if (quotient > 1.000000001) {
                return 1;
            }
            if (quotient < 0.999999999) {
                return -1;
            }
            return compareExactly(left, right, size);
        }

        // Rising and falling by turns keeps the double in its range as long as that matters: 240 steps are off by
        // less than one in 10 to the 13th, and only a quotient nearer to 1 than the bounds above is looked at exactly.
        private static double roughQuotient(Chances left, Chances right, int size) {
            double quotient = 1.0;
            int up = 0;
            int down = 0;
            for (int k = 0; k < 4 * size; k++) {
                boolean rises = down >= 2 * size || (up < 2 * size && quotient <= 1.0);
                if (rises) {
                    quotient = quotient * (double) factorOf(left, right, up);
                    up++;
                } else {
                    quotient = quotient / (double) factorOf(right, left, down);
                    down++;
                }
            }
            return quotient;
        }

        private static long factorOf(Chances of, Chances against, int k) {
            int place = k / 2;
            long factor = k % 2 == 0 ? of.parts[place] : against.wholes[place];
            return Math.max(1, factor);
        }

        // Chances that are alike on both sides say nothing, and most near products differ in few.
        private int compareExactly(Chances left, Chances right, int size) {
            one.begin();
            other.begin();
            for (int k = 0; k < size; k++) {
                if (left.parts[k] * right.wholes[k] != right.parts[k] * left.wholes[k]) {
                    one.times(left.parts[k]);
                    one.times(right.wholes[k]);
                    other.times(right.parts[k]);
                    other.times(left.wholes[k]);
                }
            }
            return one.compareWith(other);
        }
    }

    // A whole number without end: 120 factors of at most 29 bits fill at most 116 digits.
    private static final class Product {
        private static final int DIGITS = 128;
        private static final int DIGIT_BITS = 30;
        private static final long DIGIT_MASK = 0x3fffffffL;

        private final long[] digits = new long[DIGITS];
        private int size = 0;

        void begin() {
            digits[0] = 1;
            size = 1;
        }

        void times(long factor) {
            long carry = 0;
            for (int k = 0; k < size; k++) {
                long sum = digits[k] * factor + carry;
                digits[k] = sum & DIGIT_MASK;
                carry = sum >>> DIGIT_BITS;
            }
            if (carry > 0 && size < DIGITS) {
                digits[size] = carry;
                size++;
            }
        }

        int compareWith(Product other) {
            if (size != other.size) {
                return size > other.size ? 1 : -1;
            }
            for (int k = size - 1; k >= 0; k--) {
                if (digits[k] != other.digits[k]) {
                    return digits[k] > other.digits[k] ? 1 : -1;
                }
            }
            return 0;
        }
    }
}
