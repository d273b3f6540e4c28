/**
 * Shots of a scene that suit one another: told by a text, edited, undone, kept as images.
 * The document (../shared/DOC.md) says what each call answers; words in capitals are its terms.
 */
public final class SceneShots {
    public static final int BAD = -1, STATE = -2, FULL = -3, NONE = -9;
    public static final int NO = -1000000;

    private static final int MOST_LINES = 8;
    private static final int MOST_SHOTS = 6;
    private static final int MOST_LETTERS = 160;
    private static final int MOST_KNOWN = 8;
    private static final int MOST_SEEN = 6;
    private static final int MOST_IMAGES = 2;

    /** What a text tells of a SHOT, in its order, which is that of shot(.., 0 .. 6), too. */
    private static final int X = 0, Y = 1, AIM = 2, SIZE = 3, FROM = 4, TO = 5, PRICE = 6, FACTS = 7;
    private static final int[] LOWEST = {0, 0, 0, 1, 0, 0, 1};
    private static final int[] HIGHEST = {9, 9, 2, 5, 7, 7, 9};

    private final Scene scene;
    private final Scene draft;
    private final Past past;
    private final Reader reader;
    private final Planner planner;
    private final Sights sights;
    private final Scene[] images;
    private final boolean[] kept;

    public SceneShots() {
        scene = new Scene();
        draft = new Scene();
        past = new Past();
        reader = new Reader();
        planner = new Planner();
        sights = new Sights();
        images = new Scene[MOST_IMAGES];
        for (int image = 0; image < MOST_IMAGES; image++) {
            images[image] = new Scene();
        }
        kept = new boolean[MOST_IMAGES];
    }

    // ---- what is told

    public int type(int letter) {
        if (letter < 0 || letter > 255) {
            return BAD;
        }
        return reader.takeLetter(letter) ? reader.length : FULL;
    }

    public int clear() {
        return reader.dropText();
    }

    public int tells() {
        int items = reader.readInto(draft);
        if (items < 0) {
            return items;
        }
        past.remember(scene);
        scene.become(draft);
        reader.dropText();
        return items;
    }

    // ---- what is done

    public int puts(int line, int shot) {
        if (!scene.hasLine(line) || !scene.hasShot(shot)) {
            return BAD;
        }
        int before = scene.chosen[line];
        if (before == shot || !scene.covers(shot, line)) {
            return STATE;
        }
        past.remember(scene);
        scene.chosen[line] = shot;
        return before;
    }

    public int takes(int line) {
        if (!scene.hasLine(line)) {
            return BAD;
        }
        int before = scene.chosen[line];
        if (before == NONE) {
            return STATE;
        }
        past.remember(scene);
        scene.chosen[line] = NONE;
        return before;
    }

    public int strikes(int shot) {
        if (!scene.hasShot(shot)) {
            return BAD;
        }
        past.remember(scene);
        scene.dropShot(shot);
        return scene.loseShotInEdit(shot);
    }

    public int makes() {
        planner.study(scene);
        if (!planner.findBest()) {
            return STATE;
        }
        int others = planner.differsFrom(scene);
        if (others == 0) {
            return STATE;
        }
        past.remember(scene);
        planner.giveBestTo(scene);
        return others;
    }

    public int undo() {
        return past.restore(scene) ? past.known : STATE;
    }

    // ---- asked

    public int line(int line, int what) {
        if (!scene.hasLine(line)) {
            return BAD;
        }
        switch (what) {
            case 0:
                return scene.speakers[line];
            case 1:
                return scene.chosen[line];
            case 2:
                return scene.isReaction(line, scene.chosen[line]) ? 1 : 0;
            case 3:
                return scene.coverers(line);
            default:
                return BAD;
        }
    }

    public int shot(int shot, int what) {
        if (!scene.hasShot(shot) || what < 0) {
            return NO;
        }
        if (what < FACTS) {
            return scene.fact(shot, what);
        }
        switch (what) {
            case 7:
                return scene.side(shot);
            case 8:
                return scene.wayX(shot);
            case 9:
                return scene.wayY(shot);
            case 10:
                return scene.partners(shot);
            default:
                return NO;
        }
    }

    public int player(int player, int what) {
        if (player < 0 || player > 1 || what < 0 || what > 1) {
            return BAD;
        }
        return scene.places[2 * player + what];
    }

    public int edit(int what) {
        switch (what) {
            case 0:
                return scene.linesWithoutShot();
            case 1:
                return scene.wrongCuts();
            case 2:
                return scene.doubleReactions();
            case 3:
                return scene.cuts();
            case 4:
                return scene.shotsUsed();
            default:
                return BAD;
        }
    }

    // ---- other edits

    public int best(int k) {
        if (k < -2 || k >= scene.lines) {
            return BAD;
        }
        planner.study(scene);
        if (!planner.findBest()) {
            return NONE;
        }
        if (k == -2) {
            return planner.bestSize;
        }
        return k == -1 ? planner.bestCuts : planner.bestEdit[k];
    }

    public int cheapest(int what) {
        if (what < 0 || what > 1) {
            return BAD;
        }
        planner.study(scene);
        int set = planner.cheapestSet();
        if (set == NONE || what == 0) {
            return set;
        }
        return (int) (1000f * planner.dear(set));
    }

    public int needed() {
        planner.study(scene);
        return planner.neededShots();
    }

    // ---- which shot

    public int sees(int what, int n) {
        if (what < 0 || what > 2 || n < -1 || n > 5) {
            return BAD;
        }
        return sights.note(what, n) ? sights.seen : FULL;
    }

    public int forget() {
        return sights.dropAll();
    }

    public int which(int what) {
        if (what < 0 || what > 1) {
            return BAD;
        }
        int fitting = sights.fitting(scene);
        if (what == 0) {
            return Integer.bitCount(fitting);
        }
        return fitting == 0 ? NONE : Integer.numberOfTrailingZeros(fitting);
    }

    // ---- images

    public int keep(int image) {
        if (image < 0 || image >= MOST_IMAGES) {
            return BAD;
        }
        images[image].become(scene);
        kept[image] = true;
        return scene.shots;
    }

    public int back(int image) {
        if (image < 0 || image >= MOST_IMAGES) {
            return BAD;
        }
        if (!kept[image]) {
            return STATE;
        }
        scene.become(images[image]);
        past.known = 0;
        return scene.shots;
    }

    public int count(int what) {
        switch (what) {
            case 0:
                return scene.lines;
            case 1:
                return scene.shots;
            case 2:
                return sights.seen;
            case 3:
                return reader.length;
            case 4:
                return past.known;
            default:
                return BAD;
        }
    }

    /** All that a text tells, and THE EDIT: what is undone and what IMAGES keep. */
    private static final class Scene {
        final int[] places = new int[4];
        final int[] speakers = new int[MOST_LINES];
        final int[] chosen = new int[MOST_LINES];
        final int[] facts = new int[MOST_SHOTS * FACTS];
        int lines;
        int shots;

        Scene() {
            startAnew();
        }

        void startAnew() {
            places[0] = 3;
            places[1] = 5;
            places[2] = 6;
            places[3] = 5;
            for (int line = 0; line < MOST_LINES; line++) {
                chosen[line] = NONE;
            }
            lines = 0;
            shots = 0;
        }

        void become(Scene other) {
            System.arraycopy(other.places, 0, places, 0, 4);
            System.arraycopy(other.speakers, 0, speakers, 0, MOST_LINES);
            System.arraycopy(other.chosen, 0, chosen, 0, MOST_LINES);
            System.arraycopy(other.facts, 0, facts, 0, MOST_SHOTS * FACTS);
            lines = other.lines;
            shots = other.shots;
        }

        boolean hasLine(int line) {
            return line >= 0 && line < lines;
        }

        boolean hasShot(int shot) {
            return shot >= 0 && shot < shots;
        }

        int fact(int shot, int which) {
            return facts[shot * FACTS + which];
        }

        void dropShot(int shot) {
            for (int at = shot * FACTS; at < (shots - 1) * FACTS; at++) {
                facts[at] = facts[at + FACTS];
            }
            shots--;
        }

        /** SHOTS behind the struck one have moved up, so THE EDIT must name them anew. */
        int loseShotInEdit(int shot) {
            int losers = 0;
            for (int line = 0; line < lines; line++) {
                if (chosen[line] == shot) {
                    chosen[line] = NONE;
                    losers++;
                } else if (chosen[line] > shot) {
                    chosen[line]--;
                }
            }
            return losers;
        }

        boolean covers(int shot, int line) {
            return fact(shot, FROM) <= line && line <= fact(shot, TO);
        }

        int coverers(int line) {
            int bits = 0;
            for (int shot = 0; shot < shots; shot++) {
                if (covers(shot, line)) {
                    bits |= 1 << shot;
                }
            }
            return bits;
        }

        int side(int shot) {
            int a = places[2] - places[0];
            int b = places[3] - places[1];
            int c = fact(shot, X) - places[0];
            int d = fact(shot, Y) - places[1];
            return Integer.signum(a * d - b * c);
        }

        int wayX(int shot) {
            return 2 * facts[shot * FACTS + X] - places[0] - places[2];
        }

        int wayY(int shot) {
            return 2 * facts[shot * FACTS + Y] - places[1] - places[3];
        }

        boolean near(int one, int other) {
            int e = wayX(one);
            int f = wayY(one);
            int g = wayX(other);
            int h = wayY(other);
            int lengths = (e * e + f * f) * (g * g + h * h);
            if (lengths == 0) {
                return true;
            }
            int p = e * g + f * h;
            return p > 0 && 4 * p * p > 3 * lengths;
        }

        boolean tooLike(int one, int other) {
            return fact(one, AIM) == fact(other, AIM)
                    && Math.abs(fact(one, SIZE) - fact(other, SIZE)) < 2
                    && near(one, other);
        }

        boolean canBeCut(int one, int other) {
            return one != other && side(one) * side(other) != -1 && !tooLike(one, other);
        }

        int partners(int shot) {
            int bits = 0;
            for (int other = 0; other < shots; other++) {
                if (canBeCut(shot, other)) {
                    bits |= 1 << other;
                }
            }
            return bits;
        }

        /** Whether the LINE would be a REACTION with that SHOT (or NONE). */
        boolean isReaction(int line, int shot) {
            return shot != NONE && fact(shot, AIM) == 1 - speakers[line];
        }

        int linesWithoutShot() {
            int without = 0;
            for (int line = 0; line < lines; line++) {
                if (chosen[line] == NONE) {
                    without++;
                }
            }
            return without;
        }

        boolean isCutAhead(int line) {
            int before = chosen[line - 1];
            int behind = chosen[line];
            return before != NONE && behind != NONE && before != behind;
        }

        int wrongCuts() {
            int wrong = 0;
            for (int line = 1; line < lines; line++) {
                if (isCutAhead(line) && !canBeCut(chosen[line - 1], chosen[line])) {
                    wrong++;
                }
            }
            return wrong;
        }

        int doubleReactions() {
            int doubles = 0;
            for (int line = 1; line < lines; line++) {
                if (isReaction(line - 1, chosen[line - 1]) && isReaction(line, chosen[line])) {
                    doubles++;
                }
            }
            return doubles;
        }

        int cuts() {
            int cuts = 0;
            for (int line = 1; line < lines; line++) {
                if (isCutAhead(line)) {
                    cuts++;
                }
            }
            return cuts;
        }

        int shotsUsed() {
            int used = 0;
            for (int line = 0; line < lines; line++) {
                if (chosen[line] != NONE) {
                    used |= 1 << chosen[line];
                }
            }
            return Integer.bitCount(used);
        }
    }

    /** The latest scenes, in a ring: the oldest is written over when all are in use. */
    private static final class Past {
        final Scene[] scenes = new Scene[MOST_KNOWN];
        int known;
        int next;

        Past() {
            for (int at = 0; at < MOST_KNOWN; at++) {
                scenes[at] = new Scene();
            }
        }

        void remember(Scene scene) {
            scenes[next].become(scene);
            next = next == MOST_KNOWN - 1 ? 0 : next + 1;
            known = Math.min(known + 1, MOST_KNOWN);
        }

        boolean restore(Scene scene) {
            if (known == 0) {
                return false;
            }
            next = next == 0 ? MOST_KNOWN - 1 : next - 1;
            known--;
            scene.become(scenes[next]);
            return true;
        }
    }

    /** THE TEXT, and the reading of it TOKEN by TOKEN. */
    private static final class Reader {
        static final int END = 0, WORD = 1, FIGURES = 2, STOP = 3, OTHER = 4;
        static final int MOST_ITEMS = MOST_SHOTS + 2;
        static final int FAULT_BASE = -10;

        final int[] text = new int[MOST_LETTERS];
        int length;
        int kind;
        int start;
        int end;
        boolean playersTold;
        boolean linesTold;

        boolean takeLetter(int letter) {
            if (length >= MOST_LETTERS) {
                return false;
            }
            text[length] = letter;
            length++;
            return true;
        }

        int dropText() {
            int had = length;
            length = 0;
            return had;
        }

        /** How many ITEMS, or FAULT_BASE less FAULT: the faulty TOKEN is always the current one. */
        int readInto(Scene draft) {
            draft.startAnew();
            playersTold = false;
            linesTold = false;
            end = 0;
            for (int items = 0; items <= MOST_ITEMS; items++) {
                step();
                if (kind == END) {
                    return items;
                }
                if (!readItem(draft)) {
                    return FAULT_BASE - start;
                }
            }
            return FAULT_BASE - start;
        }

        boolean readItem(Scene draft) {
            if (isWord("players")) {
                return !playersTold && readPlayers(draft);
            }
            if (isWord("lines")) {
                return !linesTold && readLines(draft);
            }
            return isWord("shot") && draft.shots < MOST_SHOTS && readShot(draft);
        }

        boolean readPlayers(Scene draft) {
            playersTold = true;
            for (int at = 0; at < 4; at++) {
                if (!stepToFigure(0, 9)) {
                    return false;
                }
                draft.places[at] = text[start] - '0';
            }
            boolean apart = draft.places[0] != draft.places[2] || draft.places[1] != draft.places[3];
            return apart && stepToStop();
        }

        boolean readLines(Scene draft) {
            linesTold = true;
            step();
            int figures = end - start;
            if (kind != FIGURES || figures > MOST_LINES) {
                return false;
            }
            for (int line = 0; line < figures; line++) {
                draft.speakers[line] = text[start + line] - '0';
                if (draft.speakers[line] > 1) {
                    return false;
                }
            }
            draft.lines = figures;
            return stepToStop();
        }

        boolean readShot(Scene draft) {
            int base = draft.shots * FACTS;
            for (int which = 0; which < FACTS; which++) {
                int lowest = which == TO ? draft.facts[base + FROM] : LOWEST[which];
                if (!stepToFigure(lowest, HIGHEST[which])) {
                    return false;
                }
                draft.facts[base + which] = text[start] - '0';
            }
            draft.shots++;
            return stepToStop();
        }

        boolean stepToStop() {
            step();
            return kind == STOP;
        }

        boolean stepToFigure(int lowest, int highest) {
            step();
            if (kind != FIGURES || end - start != 1) {
                return false;
            }
            int figure = text[start] - '0';
            return figure >= lowest && figure <= highest;
        }

        /** Goes to the next TOKEN: text[start] up to, but without, text[end]. */
        void step() {
            start = end;
            while (start < length && text[start] == ' ') {
                start++;
            }
            end = start;
            kind = kindAt(start);
            if (kind == END) {
                return;
            }
            end++;
            if (kind == WORD || kind == FIGURES) {
                while (end < length && kindAt(end) == kind) {
                    end++;
                }
            }
        }

        int kindAt(int place) {
            if (place >= length) {
                return END;
            }
            int letter = text[place];
            if (letter >= 'a' && letter <= 'z') {
                return WORD;
            }
            if (letter >= '0' && letter <= '9') {
                return FIGURES;
            }
            return letter == ';' ? STOP : OTHER;
        }

        boolean isWord(String word) {
            if (kind != WORD || end - start != word.length()) {
                return false;
            }
            for (int at = 0; at < word.length(); at++) {
                if (text[start + at] != word.charAt(at)) {
                    return false;
                }
            }
            return true;
        }
    }

    /** WHOLE EDITS of a scene; study() comes ahead of every other call. */
    private static final class Planner {
        /** More CUTS than any EDIT has: no WHOLE EDIT goes on from there. */
        static final int NEVER = 100;

        final int[] coverers = new int[MOST_LINES];
        /** For a SHOT at a LINE: the SHOTS that may stand at the next LINE, as bits. */
        final int[][] followers = new int[MOST_LINES][MOST_SHOTS];
        /** For a SHOT at a LINE: the fewest CUTS behind it. */
        final int[][] cutsBehind = new int[MOST_LINES][MOST_SHOTS];
        final int[] partners = new int[MOST_SHOTS];
        final int[] prices = new int[MOST_SHOTS];
        final int[] trial = new int[MOST_LINES];
        final int[] bestEdit = new int[MOST_LINES];
        int lines;
        int shots;
        int bestSize;
        int bestCuts;

        void study(Scene scene) {
            lines = scene.lines;
            shots = scene.shots;
            for (int shot = 0; shot < shots; shot++) {
                partners[shot] = scene.partners(shot);
                prices[shot] = scene.fact(shot, PRICE);
            }
            for (int line = 0; line < lines; line++) {
                coverers[line] = scene.coverers(line);
            }
            for (int line = 0; line + 1 < lines; line++) {
                for (int shot = 0; shot < shots; shot++) {
                    followers[line][shot] = followersOf(scene, line, shot);
                }
            }
        }

        int followersOf(Scene scene, int line, int shot) {
            int bits = (partners[shot] | 1 << shot) & coverers[line + 1];
            if (!scene.isReaction(line, shot)) {
                return bits;
            }
            for (int next = 0; next < shots; next++) {
                if (scene.isReaction(line + 1, next)) {
                    bits &= ~(1 << next);
                }
            }
            return bits;
        }

        boolean hasWholeEdit(int set) {
            if (lines == 0) {
                return true;
            }
            int reached = coverers[0] & set;
            for (int line = 0; line + 1 < lines; line++) {
                int next = 0;
                for (int shot = 0; shot < shots; shot++) {
                    if ((reached >> shot & 1) == 1) {
                        next |= followers[line][shot];
                    }
                }
                reached = next & set;
            }
            return reached != 0;
        }

        /** Smaller sets come first, so all EDITS of the first size found use just so many SHOTS. */
        boolean findBest() {
            for (int size = 0; size <= shots; size++) {
                boolean found = false;
                for (int set = 0; set < 1 << shots; set++) {
                    if (Integer.bitCount(set) == size && hasWholeEdit(set)) {
                        int cuts = planTrial(set);
                        if (!found || cuts < bestCuts || cuts == bestCuts && trialIsLower()) {
                            takeTrial(size, cuts);
                        }
                        found = true;
                    }
                }
                if (found) {
                    return true;
                }
            }
            return false;
        }

        /** The first EDIT of the fewest CUTS of a set that has a WHOLE EDIT: how many CUTS. */
        int planTrial(int set) {
            if (lines == 0) {
                return 0;
            }
            for (int line = lines - 1; line >= 0; line--) {
                for (int shot = 0; shot < shots; shot++) {
                    cutsBehind[line][shot] = fewestBehind(line, shot, set);
                }
            }
            int allowed = coverers[0] & set;
            trial[0] = cheapestOf(0, allowed, NONE);
            int cuts = cutsFrom(0, trial[0], NONE);
            for (int line = 1; line < lines; line++) {
                int before = trial[line - 1];
                allowed = before == NONE ? 0 : followers[line - 1][before] & set;
                trial[line] = cheapestOf(line, allowed, before);
            }
            return cuts;
        }

        int fewestBehind(int line, int shot, int set) {
            if (line == lines - 1) {
                return 0;
            }
            int next = cheapestOf(line + 1, followers[line][shot] & set, shot);
            return cutsFrom(line + 1, next, shot);
        }

        /** The lowest allowed SHOT of the LINE from which on there are the fewest CUTS. */
        int cheapestOf(int line, int allowed, int before) {
            int lowest = NONE;
            int fewest = NEVER;
            for (int shot = 0; shot < shots; shot++) {
                if ((allowed >> shot & 1) == 1 && cutsFrom(line, shot, before) < fewest) {
                    lowest = shot;
                    fewest = cutsFrom(line, shot, before);
                }
            }
            return lowest;
        }

        /** CUTS from the one ahead of the LINE on (none there, if NONE is before it). */
        int cutsFrom(int line, int shot, int before) {
            if (shot == NONE) {
                return NEVER;
            }
            int cut = before == NONE || before == shot ? 0 : 1;
            return Math.min(cut + cutsBehind[line][shot], NEVER);
        }

        boolean trialIsLower() {
            for (int line = 0; line < lines; line++) {
                if (trial[line] != bestEdit[line]) {
                    return trial[line] < bestEdit[line];
                }
            }
            return false;
        }

        void takeTrial(int size, int cuts) {
            bestSize = size;
            bestCuts = cuts;
            System.arraycopy(trial, 0, bestEdit, 0, lines);
        }

        int differsFrom(Scene scene) {
            int others = 0;
            for (int line = 0; line < lines; line++) {
                if (scene.chosen[line] != bestEdit[line]) {
                    others++;
                }
            }
            return others;
        }

        void giveBestTo(Scene scene) {
            System.arraycopy(bestEdit, 0, scene.chosen, 0, lines);
        }

        float dear(int set) {
            float dear = 0f;
            for (int shot = 0; shot < shots; shot++) {
                if ((set >> shot & 1) == 1) {
                    dear = dear + (float) prices[shot] / 3f;
                }
            }
            return dear;
        }

        int cheapestSet() {
            int cheapest = NONE;
            float least = 0f;
            for (int set = 0; set < 1 << shots; set++) {
                float dear = dear(set);
                if ((cheapest == NONE || dear < least) && hasWholeEdit(set)) {
                    cheapest = set;
                    least = dear;
                }
            }
            return cheapest;
        }

        int neededShots() {
            int all = (1 << shots) - 1;
            int bits = 0;
            if (!hasWholeEdit(all)) {
                return bits;
            }
            for (int shot = 0; shot < shots; shot++) {
                if (!hasWholeEdit(all & ~(1 << shot))) {
                    bits |= 1 << shot;
                }
            }
            return bits;
        }
    }

    /** What was SEEN of an unknown SHOT. */
    private static final class Sights {
        final int[] whats = new int[MOST_SEEN];
        final int[] numbers = new int[MOST_SEEN];
        int seen;

        boolean note(int what, int n) {
            if (seen >= MOST_SEEN) {
                return false;
            }
            whats[seen] = what;
            numbers[seen] = n;
            seen++;
            return true;
        }

        int dropAll() {
            int had = seen;
            seen = 0;
            return had;
        }

        int fitting(Scene scene) {
            int bits = 0;
            for (int shot = 0; shot < scene.shots; shot++) {
                if (fits(scene, shot)) {
                    bits |= 1 << shot;
                }
            }
            return bits;
        }

        boolean fits(Scene scene, int shot) {
            for (int at = 0; at < seen; at++) {
                if (look(scene, shot, whats[at]) != numbers[at]) {
                    return false;
                }
            }
            return true;
        }

        int look(Scene scene, int shot, int what) {
            if (what == 2) {
                return scene.side(shot);
            }
            return scene.fact(shot, what == 0 ? AIM : SIZE);
        }
    }
}
