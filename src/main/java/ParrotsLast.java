import java.util.NoSuchElementException;

/** Parrots that give evidence last: what they heard, in the order in which they were fond of it. */
public final class ParrotsLast {
    public static final int NONE = -1;

    private static final int WORDS = 8;
    private static final int ALL_WORDS = 255;
    private static final int HOUSES = 4;
    private static final int LONGEST_TALE = 16;
    private static final int MOST_PARROTS = 6;
    private static final int LONGEST_PARROTS = 17;
    private static final int LONGEST_RULE = 40;
    private static final int DEEPEST_RULE = 4;
    private static final int LONGEST_TRIAL = 60;
    private static final int LONGEST_TEXT = 80;
    private static final int MOST_HEARD = 9999;
    private static final int MOST_TAUGHT = 99;
    private static final int MOST_DAYS = 60;
    private static final int MOST_CRACKERS = 40;
    private static final int MOST_UNDONE = 12;
    private static final int MOST_TELLINGS = 12;
    private static final int MOST_NOTES = 12;
    private static final int MOST_KEPT = 2;
    private static final int QUESTIONS = 10;

    private static final int CANNOT = -2;
    private static final int NO_MORE = -3;
    private static final int MISSING = -3;
    private static final int NO_HOUSE = -100;
    private static final int NO_COUNT = -100;
    private static final int NO_SOURCE = -200;
    private static final int NO_LAW = -10000;

    private final Text text = new Text();
    private final Told told = new Told();
    private final Houses houses = new Houses();
    private final int[] worths = new int[WORDS];
    private Rule rule = new Rule();
    private Rule tried = new Rule();
    private final Scene now = new Scene();
    private final Scene spare = new Scene();
    private final Past past = new Past();
    private final Scene[] kept = new Scene[MOST_KEPT];
    private final boolean[] isKept = new boolean[MOST_KEPT];
    private final Bird spareBird = new Bird();
    private final Tongue tongue = new Tongue();
    private final Tongue otherTongue = new Tongue();
    private final Tellings tellings = new Tellings();
    private final Notes notes = new Notes();
    private final int[] sets = new int[MOST_PARROTS];
    private final int[] leads = new int[WORDS];

    public ParrotsLast() {
        for (int w = 0; w < WORDS; w++) {
            worths[w] = 1;
        }
        for (int i = 0; i < MOST_KEPT; i++) {
            kept[i] = new Scene();
        }
    }

    // ---- houses, parrots, worths

    public int sign(int v) {
        return text.add(v) ? text.size : NONE;
    }

    public boolean end(int n) {
        if (n < 0 || n > text.size) {
            return false;
        }
        text.size = n;
        return true;
    }

    public int house(int house) {
        int answer = isHouse(house) ? readHouse(house) : NO_HOUSE;
        text.size = 0;
        return answer;
    }

    private int readHouse(int house) {
        if (text.size == 0) {
            return -1;
        }
        int bad = text.badInTale();
        if (bad != NONE) {
            return -1 - bad;
        }
        houses.furnish(house, text);
        return text.size;
    }

    public int parrots() {
        int answer = readParrots();
        text.size = 0;
        return answer;
    }

    private int readParrots() {
        if (text.size == 0) {
            return 0;
        }
        int bad = badInParrots();
        if (bad != NONE) {
            return -1 - bad;
        }
        int lines = (text.size + 1) / 3;
        for (int line = 0; line < lines; line++) {
            now.welcome(text.digitAt(3 * line), text.digitAt(3 * line + 1));
        }
        past.size = 0;
        return lines;
    }

    /** The place of the first sign that can't stand in a text of parrots, or NONE. */
    private int badInParrots() {
        for (int p = 0; p < text.size; p++) {
            if (p >= LONGEST_PARROTS || !standsInParrots(p)) {
                return p;
            }
        }
        return text.size % 3 == 2 ? NONE : text.size;
    }

    private boolean standsInParrots(int p) {
        int digit = text.digitAt(p);
        if (p % 3 == 0) {
            return digit >= 0 && digit < HOUSES && now.size + p / 3 < MOST_PARROTS;
        }
        if (p % 3 == 1) {
            return digit >= 1 && digit <= WORDS;
        }
        return text.at(p) == ';';
    }

    public int worths() {
        int answer = readWorths();
        text.size = 0;
        return answer;
    }

    private int readWorths() {
        for (int p = 0; p < text.size; p++) {
            if (p >= WORDS || text.digitAt(p) == NONE) {
                return -1 - p;
            }
        }
        if (text.size < WORDS) {
            return -1 - text.size;
        }
        for (int w = 0; w < WORDS; w++) {
            worths[w] = text.digitAt(w);
        }
        return sumOfWorths();
    }

    private int sumOfWorths() {
        int sum = 0;
        for (int w = 0; w < WORDS; w++) {
            sum += worths[w];
        }
        return sum;
    }

    public int rule() {
        int bad = tried.readFrom(text);
        text.size = 0;
        if (bad != NONE) {
            return -1 - bad;
        }
        Rule old = rule;
        rule = tried;
        tried = old;
        return 0;
    }

    public int parrot(int parrot, int what) throws NoSuchElementException {
        if (!isParrot(parrot)) {
            throw new NoSuchElementException("no such parrot");
        }
        Bird bird = now.birds[parrot];
        switch (what) {
            case 0:
                return bird.house;
            case 1:
                return bird.memory;
            case 2:
                return bird.covered ? 1 : 0;
            case 3:
                return bird.heard;
            case 4:
                return bird.known();
            case 5:
                return bird.out;
            default:
                throw new NoSuchElementException("nothing such of a parrot");
        }
    }

    public int word(int parrot, int word, int what) throws NoSuchElementException {
        if (!isParrot(parrot) || !isWord(word)) {
            throw new NoSuchElementException("no such parrot or word");
        }
        Bird bird = now.birds[parrot];
        boolean never = bird.often[word] == 0;
        switch (what) {
            case 0:
                return bird.often[word];
            case 1:
                return never ? NONE : bird.first[word];
            case 2:
                return never ? NONE : bird.last[word];
            case 3:
                return bird.taught[word];
            case 4:
                return never ? 0 : rule.fondness(bird, word, worths[word]);
            default:
                throw new NoSuchElementException("nothing such of a word");
        }
    }

    public int said(int house, int n) {
        if (!isHouse(house) || n < 0 || n > 99) {
            return NONE;
        }
        return houses.wordOn(house, now.day + n);
    }

    public int sheet(int kind, int n, int f, int step) {
        if (kind < 0 || kind > 3 || n > WORDS) {
            return NONE;
        }
        if (kind == 3) {
            fillWorths(kind, 0, f, step);
            return MISSING;
        }
        if (n < 0) {
            return CANNOT;
        }
        fillWorths(kind, n, f, step);
        return sumOfWorths();
    }

    private void fillWorths(int kind, int n, int f, int step) {
        int entry = f;
        for (int w = 0; w < WORDS; w++) {
            worths[w] = w < n ? asWorth(kind, entry) : 0;
            entry += step;
        }
    }

    private static int asWorth(int kind, int entry) {
        int worth = entry;
        if (kind == 0) {
            worth = (byte) entry;
        } else if (kind == 1) {
            worth = (short) entry;
        }
        return Math.max(0, Math.min(9, worth));
    }

    private static boolean isHouse(int house) {
        return house >= 0 && house < HOUSES;
    }

    private static boolean isWord(int word) {
        return word >= 0 && word < WORDS;
    }

    private static int lowestOf(int bits) {
        for (int i = 0; i < 32; i++) {
            if ((bits >> i & 1) != 0) {
                return i;
            }
        }
        return NONE;
    }

    private boolean isParrot(int parrot) {
        return now.isIn(parrot);
    }

    private boolean isPair(int first, int second) {
        return isParrot(first) && isParrot(second) && first != second;
    }

    // ---- days, trials

    public int days(int n) {
        if (n < 0 || n > MOST_DAYS) {
            return NONE;
        }
        spare.copyFrom(now);
        passDays(now, n);
        if (n > 0) {
            past.add(spare);
        }
        told.size = 0;
        for (int p = 0; p < now.size; p++) {
            told.add(Integer.bitCount(now.birds[p].known() & ~spare.birds[p].known()));
        }
        return now.day;
    }

    private int passDays(Scene scene, int n) {
        for (int i = 0; i < n; i++) {
            for (int p = 0; p < scene.size; p++) {
                listenOn(scene.birds[p], scene.day);
            }
            scene.day++;
        }
        return scene.day;
    }

    private void listenOn(Bird bird, int day) {
        if (!bird.covered) {
            bird.take(houses.wordOn(bird.house, day));
        }
    }

    public int move(int parrot, int house) {
        spare.copyFrom(now);
        return remembered(bring(now, parrot, house));
    }

    /** An act that was done, as its answer tells, can be undone to what it was ahead of it. */
    private int remembered(int answer) {
        if (answer >= 0) {
            past.add(spare);
        }
        return answer;
    }

    private static int bring(Scene scene, int parrot, int house) {
        if (!scene.isIn(parrot) || !isHouse(house)) {
            return NONE;
        }
        Bird bird = scene.birds[parrot];
        int old = bird.house;
        if (old == house) {
            return CANNOT;
        }
        bird.house = house;
        return old;
    }

    public int cloth(int parrot) {
        spare.copyFrom(now);
        return remembered(cover(parrot));
    }

    private int cover(int parrot) {
        if (!isParrot(parrot)) {
            return NONE;
        }
        Bird bird = now.birds[parrot];
        bird.covered = !bird.covered;
        return Integer.bitCount(now.covered());
    }

    public int teach(int parrot, int word) {
        spare.copyFrom(now);
        return remembered(feed(now, parrot, word));
    }

    private static int feed(Scene scene, int parrot, int word) {
        if (!scene.isIn(parrot) || !isWord(word)) {
            return NONE;
        }
        Bird bird = scene.birds[parrot];
        if (bird.often[word] == 0) {
            return CANNOT;
        }
        bird.taught[word] = Math.min(MOST_TAUGHT, bird.taught[word] + 1);
        return bird.taught[word];
    }

    public int speak(int parrot) {
        spare.copyFrom(now);
        return remembered(utter(now, parrot));
    }

    private int utter(Scene scene, int parrot) {
        if (!scene.isIn(parrot)) {
            return NONE;
        }
        Bird bird = scene.birds[parrot];
        if (bird.covered) {
            return CANNOT;
        }
        tongue.follow(bird, rule, worths);
        int word = tongue.at(bird.out);
        if (word == NONE) {
            return NO_MORE;
        }
        bird.out++;
        for (int p = 0; p < scene.size; p++) {
            Bird listener = scene.birds[p];
            if (p != parrot && !listener.covered && listener.house == bird.house) {
                listener.take(word);
            }
        }
        return word;
    }

    public int hush() {
        spare.copyFrom(now);
        int spoke = silence();
        if (spoke > 0) {
            past.add(spare);
        }
        return spoke;
    }

    private int silence() {
        int spoke = Integer.bitCount(now.spoken());
        for (int p = 0; p < now.size; p++) {
            now.birds[p].out = 0;
        }
        return spoke;
    }

    public int trial() {
        int bad = badInTrial();
        int answer = bad == NONE ? holdTrial() : -1 - bad;
        text.size = 0;
        return answer;
    }

    /** The place of the first sign that can't stand in a trial, or NONE. */
    private int badInTrial() {
        char act = 'x';
        int lacking = 0;
        for (int p = 0; p < text.size; p++) {
            if (p >= LONGEST_TRIAL) {
                return p;
            }
            if (lacking == 0) {
                act = text.at(p);
                lacking = signsBehind(act);
                if (lacking == NONE) {
                    return p;
                }
            } else {
                boolean letter = act == 't' && lacking == 1;
                if ((letter ? text.wordAt(p) : text.digitAt(p)) == NONE) {
                    return p;
                }
                lacking--;
            }
        }
        return lacking == 0 ? NONE : text.size;
    }

    private static int signsBehind(char act) {
        switch (act) {
            case 'x':
                return 0;
            case 'd':
            case 'k':
            case 's':
                return 1;
            case 'm':
            case 't':
                return 2;
            default:
                return NONE;
        }
    }

    private int holdTrial() {
        spare.copyFrom(now);
        int done = 0;
        boolean stopped = false;
        int p = 0;
        while (p < text.size && !stopped) {
            if (actAt(p) < 0) {
                stopped = true;
            } else {
                done++;
            }
            p += 1 + Math.max(0, signsBehind(text.at(p)));
        }
        if (done > 0) {
            past.add(spare);
        }
        told.pair(stopped ? 1 : 0, now.day);
        return done;
    }

    private int actAt(int p) {
        int digit = text.digitAt(p + 1);
        switch (text.at(p)) {
            case 'd':
                return passDays(now, digit);
            case 'm':
                return bring(now, digit, text.digitAt(p + 2));
            case 'k':
                return cover(digit);
            case 't':
                return feed(now, digit, text.wordAt(p + 2));
            case 's':
                return utter(now, digit);
            case 'x':
                return silence();
            default:
                return NONE;
        }
    }

    public int undo() {
        return past.bringBack(now) ? past.size : NONE;
    }

    // ---- what they say

    public int says(int parrot) {
        if (!isParrot(parrot)) {
            return NONE;
        }
        tongue.follow(now.birds[parrot], rule, worths);
        return tellWords();
    }

    private int tellWords() {
        told.size = 0;
        for (int i = 0; i < tongue.size; i++) {
            told.add(tongue.words[i]);
        }
        return tongue.size;
    }

    public int place(int parrot, int word) {
        if (!isParrot(parrot) || !isWord(word)) {
            return NONE;
        }
        tongue.follow(now.birds[parrot], rule, worths);
        int place = tongue.placeOf(word);
        return place == NONE ? CANNOT : place;
    }

    public int soonest(int word) {
        if (!isWord(word)) {
            return NONE;
        }
        int best = NONE;
        int bestPlace = WORDS;
        int many = 0;
        for (int p = 0; p < now.size; p++) {
            tongue.follow(now.birds[p], rule, worths);
            int place = tongue.placeOf(word);
            if (place != NONE) {
                many++;
            }
            if (place != NONE && place < bestPlace) {
                bestPlace = place;
                best = p;
            }
        }
        if (best == NONE) {
            return CANNOT;
        }
        told.pair(bestPlace, many);
        return best;
    }

    public int unsaid() {
        gatherSets(WORDS);
        int spoken = 0;
        for (int p = 0; p < now.size; p++) {
            spoken |= sets[p];
        }
        told.only(ALL_WORDS & ~now.known());
        return ALL_WORDS & ~spoken;
    }

    /** Of each parrot the first k words that it says, as bits. */
    private void gatherSets(int k) {
        for (int p = 0; p < now.size; p++) {
            tongue.follow(now.birds[p], rule, worths);
            sets[p] = tongue.bits(k);
        }
    }

    public int later(int parrot, int n) {
        if (!isParrot(parrot) || n < 0 || n > MOST_DAYS) {
            return NONE;
        }
        spareBird.copyFrom(now.birds[parrot]);
        for (int i = 0; i < n; i++) {
            listenOn(spareBird, now.day + i);
        }
        tongue.follow(spareBird, rule, worths);
        return tellWords();
    }

    public int alters(int parrot) {
        if (!isParrot(parrot)) {
            return NONE;
        }
        tongue.follow(now.birds[parrot], rule, worths);
        spareBird.copyFrom(now.birds[parrot]);
        for (int n = 1; n <= MOST_DAYS; n++) {
            listenOn(spareBird, now.day + n - 1);
            otherTongue.follow(spareBird, rule, worths);
            int place = tongue.differsAt(otherTongue);
            if (place != NONE) {
                told.pair(place, otherTongue.at(place));
                return n;
            }
        }
        return CANNOT;
    }

    // ---- crackers, hearings

    public int crackers(int parrot, int word) {
        if (!isParrot(parrot) || !isWord(word)) {
            return NONE;
        }
        spareBird.copyFrom(now.birds[parrot]);
        if (spareBird.often[word] == 0) {
            return CANNOT;
        }
        for (int n = 0; n <= MOST_CRACKERS; n++) {
            tongue.follow(spareBird, rule, worths);
            if (tongue.at(0) == word) {
                return n;
            }
            spareBird.taught[word] = Math.min(MOST_TAUGHT, spareBird.taught[word] + 1);
        }
        return CANNOT;
    }

    public int stay(int parrot, int house, int word) {
        if (!isParrot(parrot) || !isHouse(house) || !isWord(word)) {
            return NONE;
        }
        spareBird.copyFrom(now.birds[parrot]);
        spareBird.house = house;
        spareBird.covered = false;
        for (int n = 0; n <= MOST_DAYS; n++) {
            tongue.follow(spareBird, rule, worths);
            if (tongue.at(0) == word) {
                return n;
            }
            listenOn(spareBird, now.day + n);
        }
        return CANNOT;
    }

    public int hear(int those, int k) {
        if (those < 0 || those > ALL_WORDS || k < 1 || k > WORDS) {
            return NONE;
        }
        gatherSets(k);
        int best = NONE;
        int fewest = MOST_PARROTS + 1;
        for (int group = 0; group < 1 << now.size; group++) {
            int many = Integer.bitCount(group);
            if (many < fewest && (those & ~wordsOf(group)) == 0) {
                fewest = many;
                best = group;
            }
        }
        if (best == NONE) {
            return CANNOT;
        }
        told.only(best);
        return fewest;
    }

    private int wordsOf(int group) {
        int words = 0;
        for (int p = 0; p < now.size; p++) {
            if ((group >> p & 1) != 0) {
                words |= sets[p];
            }
        }
        return words;
    }

    public int gain(int parrot, int k) {
        if (!isParrot(parrot) || k < 0 || k > WORDS) {
            return NONE;
        }
        int own = 0;
        int best = NONE;
        int most = NONE;
        for (int p = 0; p < now.size; p++) {
            tongue.follow(now.birds[p], rule, worths);
            int worth = worthOfFirst(k);
            if (p == parrot) {
                own = worth;
            }
            if (worth > most) {
                most = worth;
                best = p;
            }
        }
        told.pair(best, most);
        return own;
    }

    private int worthOfFirst(int k) {
        int sum = 0;
        for (int i = 0; i < k && i < tongue.size; i++) {
            sum += worths[tongue.words[i]];
        }
        return sum;
    }

    // ---- rows of words

    public int blend(int one, int other) {
        int answer = isHouse(one) && isHouse(other) && one != other ? readBlend(one, other) : NO_HOUSE;
        text.size = 0;
        return answer;
    }

    private int readBlend(int first, int second) {
        int bad = text.badInTale();
        if (bad != NONE) {
            return -1 - bad;
        }
        int own = houses.fewestOfFirst(first, second, text);
        if (own == NONE) {
            return 0;
        }
        told.only(own);
        return 1;
    }

    public int source() {
        int bad = text.badInTale();
        int answer = bad == NONE ? findSource() : -1 - bad;
        text.size = 0;
        return answer;
    }

    private int findSource() {
        int least = NO_SOURCE;
        int pairs = 0;
        for (int first = 0; first < HOUSES; first++) {
            for (int second = first + 1; second < HOUSES; second++) {
                if (houses.fewestOfFirst(first, second, text) != NONE) {
                    least = pairs == 0 ? 10 * first + second : least;
                    pairs++;
                }
            }
        }
        if (pairs > 0) {
            told.only(pairs);
        }
        return least;
    }

    public int alike(int one, int other) {
        if (!isPair(one, other)) {
            return NONE;
        }
        followBoth(one, other);
        tongue.compare(otherTongue);
        told.size = 0;
        int many = tongue.common[0][0];
        int i = 0;
        int j = 0;
        for (int left = many; left > 0; left--) {
            int word = leastOfLongest(i, j, left);
            told.add(word);
            i = tongue.placeOf(word) + 1;
            j = otherTongue.placeOf(word) + 1;
        }
        return many;
    }

    private void followBoth(int first, int second) {
        tongue.follow(now.birds[first], rule, worths);
        otherTongue.follow(now.birds[second], rule, worths);
    }

    /** The least word, from places i and j on, that begins as many common words as are left. */
    private int leastOfLongest(int i, int j, int left) {
        for (int word = 0; word < WORDS; word++) {
            int a = tongue.placeOf(word);
            int b = otherTongue.placeOf(word);
            if (a >= i && b >= j && 1 + tongue.common[a + 1][b + 1] == left) {
                return word;
            }
        }
        return NONE;
    }

    public int unlike(int one, int other) {
        if (!isPair(one, other)) {
            return NONE;
        }
        followBoth(one, other);
        int common = tongue.bits(WORDS) & otherTongue.bits(WORDS);
        int pairs = 0;
        for (int v = 0; v < WORDS; v++) {
            for (int w = v + 1; w < WORDS; w++) {
                boolean both = (common >> v & common >> w & 1) != 0;
                if (both && tongue.isAhead(v, w) != otherTongue.isAhead(v, w)) {
                    pairs++;
                }
            }
        }
        told.only(Integer.bitCount(common));
        return pairs;
    }

    // ---- what was before what

    public int before(int one, int other) {
        if (!isWord(one) || !isWord(other) || one == other || tellings.size >= MOST_TELLINGS) {
            return NONE;
        }
        tellings.add(one, other);
        return tellings.size;
    }

    public int forget() {
        int many = tellings.size;
        tellings.size = 0;
        return many;
    }

    public int clash() {
        tellings.gatherNexts();
        for (int length = 2; length <= WORDS; length++) {
            for (int least = 0; least < WORDS; least++) {
                if (tellings.hasRing(least, length)) {
                    tellings.tellRing(least, length, told);
                    return length;
                }
            }
        }
        return CANNOT;
    }

    public int drop() {
        int cost = tellings.leastCost();
        told.only(cost & Tellings.WHICH);
        return cost >> MOST_TELLINGS;
    }

    // ---- counsels, chances, which it was

    public int counsels(int parrot) {
        if (!isParrot(parrot)) {
            return NONE;
        }
        tongue.follow(now.birds[parrot], rule, worths);
        return 100 + playCounsels();
    }

    /** What he has more who is at turn; leads[i]: of the words from i on, of one more each time. */
    private int playCounsels() {
        int size = tongue.size;
        int choice = size == 0 ? NONE : 0;
        for (int i = 0; i < size; i++) {
            leads[i] = worths[tongue.words[i]];
        }
        for (int length = 2; length <= size; length++) {
            for (int i = 0; i + length <= size; i++) {
                int byFirst = worths[tongue.words[i]] - leads[i + 1];
                int byLast = worths[tongue.words[i + length - 1]] - leads[i];
                leads[i] = Math.max(byFirst, byLast);
                choice = byLast > byFirst ? 1 : 0;
            }
        }
        told.only(choice);
        return size == 0 ? 0 : leads[0];
    }

    public int sure(int parrot, int p, int k) {
        if (!isParrot(parrot) || p < 0 || p > 10 || k < 0 || k > WORDS) {
            return NONE;
        }
        tongue.follow(now.birds[parrot], rule, worths);
        long all = 1;
        for (int i = 0; i < tongue.size; i++) {
            all *= 10;
        }
        tellFraction(waysOfRight(tongue.size, p, k), all);
        return 0;
    }

    /** Of 10 to the power of many ways, those by which k or more are right. */
    private static long waysOfRight(int many, int p, int k) {
        long sum = 0;
        long choices = 1;
        for (int right = 0; right <= many; right++) {
            if (right >= k) {
                sum += choices * power(p, right) * power(10 - p, many - right);
            }
            choices = choices * (many - right) / (right + 1);
        }
        return sum;
    }

    private static long power(int base, int exponent) {
        long product = 1;
        for (int i = 0; i < exponent; i++) {
            product *= base;
        }
        return product;
    }

    private void tellFraction(long upper, long lower) {
        long a = lower;
        long b = upper;
        for (int step = 0; step < 100 && b > 0; step++) {
            long rest = a % b;
            a = b;
            b = rest;
        }
        if (a > 0) {
            told.pair(upper / a, lower / a);
        }
    }

    public int note(int what, int v) {
        if (notes.size >= MOST_NOTES || !canBeNoted(what, v)) {
            return NONE;
        }
        notes.add(what, v);
        return notes.size;
    }

    private static boolean canBeNoted(int what, int v) {
        switch (what) {
            case Notes.SAYS:
            case Notes.SAYS_NOT:
            case Notes.SAYS_FIRST:
                return isWord(v);
            case Notes.LIVES_IN:
                return isHouse(v);
            case Notes.REMEMBERS:
                return v >= 1 && v <= WORDS;
            default:
                return false;
        }
    }

    public int strike() {
        int many = notes.size;
        notes.size = 0;
        return many;
    }

    public int fits() {
        int fitting = fittingParrots();
        told.only(Integer.bitCount(fitting));
        return fitting;
    }

    private int fittingParrots() {
        int fitting = 0;
        for (int p = 0; p < now.size; p++) {
            tongue.follow(now.birds[p], rule, worths);
            if (notes.suit(now.birds[p], tongue)) {
                fitting |= 1 << p;
            }
        }
        return fitting;
    }

    public int ask() {
        int fitting = fittingParrots();
        if (fitting == 0) {
            return CANNOT;
        }
        gatherSets(WORDS);
        int all = Integer.bitCount(fitting);
        int best = NONE;
        int fewest = MOST_PARROTS + 1;
        for (int word = 0; word < WORDS; word++) {
            int saying = Integer.bitCount(fitting & sayersOf(word));
            int left = Math.max(saying, all - saying);
            if (left < fewest) {
                fewest = left;
                best = word;
            }
        }
        told.only(fewest);
        return best;
    }

    private int sayersOf(int word) {
        int sayers = 0;
        for (int p = 0; p < now.size; p++) {
            sayers |= (sets[p] >> word & 1) << p;
        }
        return sayers;
    }

    // ---- rests, rules, trials

    public int rests(int v) {
        if (v < 0 || v > 9) {
            return NONE;
        }
        int pairs = 0;
        told.size = 0;
        for (int x = 0; x < QUESTIONS; x++) {
            for (int y = 0; y < QUESTIONS; y++) {
                if (isBest(x, y, v) && isBest(y, x, v)) {
                    if (pairs == 0) {
                        told.pair(x, y);
                    }
                    pairs++;
                }
            }
        }
        return pairs;
    }

    private static boolean isBest(int own, int others, int v) {
        int has = share(own, others, v);
        for (int another = 0; another < QUESTIONS; another++) {
            if (share(another, others, v) > has) {
                return false;
            }
        }
        return true;
    }

    private static int share(int own, int others, int v) {
        int both = own + others;
        return (both > 0 ? 20 * own / both : 10) - v * own;
    }

    public int law() {
        int bad = tried.readFrom(text);
        text.size = 0;
        if (bad != NONE) {
            return NO_LAW - bad;
        }
        int otherwise = 0;
        for (int p = 0; p < now.size; p++) {
            tongue.follow(now.birds[p], rule, worths);
            otherTongue.follow(now.birds[p], tried, worths);
            if (tongue.differsAt(otherTongue) != NONE) {
                otherwise |= 1 << p;
            }
        }
        told.only(otherwise);
        return Integer.bitCount(otherwise);
    }

    // Neither undo() names years() nor is it said to forget what can be undone, so it is a
    // question: it is drawn on the spare scene, and what is now stays.
    public int years(int seed, int n) {
        if (n < 1 || n > MOST_DAYS) {
            return NONE;
        }
        spare.copyFrom(now);
        Draw draw = new Draw(seed);
        int spoke = 0;
        for (int i = 0; i < n; i++) {
            if (drawAct(draw)) {
                spoke++;
            }
        }
        told.pair(spare.heard(), spare.known());
        return spoke;
    }

    /** True if a parrot spoke. */
    private boolean drawAct(Draw draw) {
        int act = draw.next(5);
        if (act < 2) {
            passDays(spare, 1);
            return false;
        }
        if (spare.size == 0) {
            return false;
        }
        int parrot = draw.next(spare.size);
        if (act == 2) {
            return utter(spare, parrot) >= 0;
        }
        if (act == 3) {
            bring(spare, parrot, draw.next(HOUSES));
        } else {
            feed(spare, parrot, draw.next(WORDS));
        }
        return false;
    }

    // ---- kept

    public boolean keep(int i) {
        if (i < 0 || i >= MOST_KEPT) {
            return false;
        }
        kept[i].copyFrom(now);
        isKept[i] = true;
        return true;
    }

    public boolean again(int i) {
        if (i < 0 || i >= MOST_KEPT || !isKept[i] || kept[i].size != now.size) {
            return false;
        }
        now.copyFrom(kept[i]);
        past.size = 0;
        return true;
    }

    public int count(int what) {
        switch (what) {
            case 0:
                return now.size;
            case 1:
                return now.day;
            case 2:
                return now.covered();
            case 3:
                return now.spoken();
            case 4:
                return tellings.size;
            case 5:
                return notes.size;
            case 6:
                return past.size;
            case 7:
                return told.size;
            case 8:
                return text.size;
            default:
                return isHouse(what - 10) ? houses.sizes[what - 10] : NO_COUNT;
        }
    }

    public long row(int i) throws NoSuchElementException {
        if (i < 0 || i >= told.size) {
            throw new NoSuchElementException("no such number of the row");
        }
        return told.numbers[i];
    }

    /** THE TEXT: the signs that no call has read yet. */
    private static final class Text {
        final char[] signs = new char[LONGEST_TEXT];
        int size;

        boolean add(int v) {
            if (size + 4 > LONGEST_TEXT) {
                return false;
            }
            for (int shift = 24; shift >= 0; shift -= 8) {
                signs[size] = (char) (v >>> shift & 255);
                size++;
            }
            return true;
        }

        /** A sign behind the end is one that stands nowhere. */
        char at(int p) {
            return p >= 0 && p < size ? signs[p] : (char) 0;
        }

        int digitAt(int p) {
            char sign = at(p);
            return sign >= '0' && sign <= '9' ? sign - '0' : NONE;
        }

        int wordAt(int p) {
            char sign = at(p);
            return sign >= 'a' && sign <= 'h' ? sign - 'a' : NONE;
        }

        /** The place of the first sign that can't stand in a tale, or NONE. */
        int badInTale() {
            for (int p = 0; p < size; p++) {
                if (p >= LONGEST_TALE || wordAt(p) == NONE) {
                    return p;
                }
            }
            return NONE;
        }
    }

    /** The ROW: numbers told last. */
    private static final class Told {
        final long[] numbers = new long[WORDS];
        int size;

        void add(long number) {
            if (size < WORDS) {
                numbers[size] = number;
                size++;
            }
        }

        void only(long number) {
            size = 0;
            add(number);
        }

        void pair(long first, long second) {
            size = 0;
            add(first);
            add(second);
        }
    }

    /** What is said in the houses day by day. */
    private static final class Houses {
        final int[][] words = new int[HOUSES][LONGEST_TALE];
        final int[] sizes = new int[HOUSES];

        Houses() {
            for (int h = 0; h < HOUSES; h++) {
                sizes[h] = 1;
            }
        }

        void furnish(int house, Text text) {
            for (int i = 0; i < text.size && i < LONGEST_TALE; i++) {
                words[house][i] = text.wordAt(i);
            }
            sizes[house] = text.size;
        }

        int wordOn(int house, int day) {
            int size = sizes[house];
            return size > 0 ? words[house][Math.floorMod(day, size)] : 0;
        }

        /** How many words of the tale are of the first house, the fewest; NONE if it can't be put together. */
        int fewestOfFirst(int first, int second, Text tale) {
            int ways = 1;
            for (int p = 0; p < tale.size; p++) {
                int word = tale.wordAt(p);
                int next = 0;
                for (int own = 0; own <= p; own++) {
                    if ((ways >> own & 1) != 0) {
                        next |= isSaidAt(first, own, word) ? 2 << own : 0;
                        next |= isSaidAt(second, p - own, word) ? 1 << own : 0;
                    }
                }
                ways = next;
            }
            return lowestOf(ways);
        }

        private boolean isSaidAt(int house, int i, int word) {
            return i < sizes[house] && words[house][i] == word;
        }
    }

    /** A rule of fondness: numbers and letters with the operators behind what they join. */
    private static final class Rule {
        static final String LETTERS = "nfltwhv";
        static final int LETTER = 1000;
        static final int OPERATOR = 2000;
        /** A minus ahead of a thing: no sign of a text has this number. */
        static final int AHEAD = 256;

        final int[] code = new int[LONGEST_RULE];
        final int[] stack = new int[LONGEST_RULE];
        final int[] waiting = new int[LONGEST_RULE];
        final boolean[] compared = new boolean[DEEPEST_RULE + 1];
        int size;
        int waits;
        int depth;
        int digits;
        boolean behindThing;

        /** The place of the first sign that can't stand there, or NONE; an empty text is no rule. */
        int readFrom(Text text) {
            size = 0;
            waits = 0;
            depth = 0;
            compared[0] = false;
            behindThing = false;
            for (int p = 0; p < text.size; p++) {
                char sign = text.at(p);
                if (p >= LONGEST_RULE || !(behindThing ? goOn(sign) : begin(sign))) {
                    return p;
                }
            }
            if (text.size > 0 && (!behindThing || depth > 0)) {
                return text.size;
            }
            release(0);
            return NONE;
        }

        /** A sign where a thing is due. */
        private boolean begin(char sign) {
            if (sign == '-') {
                push(AHEAD);
                return true;
            }
            if (sign == '(') {
                return open();
            }
            int letter = LETTERS.indexOf(sign);
            boolean digit = sign >= '0' && sign <= '9';
            if (!digit && letter < 0) {
                return false;
            }
            emit(digit ? sign - '0' : LETTER + letter);
            digits = digit ? 1 : 0;
            behindThing = true;
            return true;
        }

        /** A sign behind a thing, or within a number. */
        private boolean goOn(char sign) {
            if (sign >= '0' && sign <= '9') {
                return lengthen(sign - '0');
            }
            if (sign == ')') {
                return close();
            }
            int rank = rankOf(sign);
            if (rank == 0 || rank == 1 && compared[depth]) {
                return false;
            }
            if (rank == 1) {
                compared[depth] = true;
            }
            release(rank);
            push(sign);
            behindThing = false;
            return true;
        }

        private boolean open() {
            if (depth >= DEEPEST_RULE) {
                return false;
            }
            depth++;
            compared[depth] = false;
            push('(');
            return true;
        }

        private boolean close() {
            if (depth <= 0) {
                return false;
            }
            release(1);
            if (waits > 0) {
                waits--;
            }
            depth--;
            digits = 0;
            return true;
        }

        private boolean lengthen(int digit) {
            if (digits < 1 || digits > 2 || size < 1) {
                return false;
            }
            code[size - 1] = code[size - 1] * 10 + digit;
            digits++;
            return true;
        }

        private void emit(int token) {
            if (size < LONGEST_RULE) {
                code[size] = token;
                size++;
            }
        }

        private void push(int operator) {
            if (waits < LONGEST_RULE) {
                waiting[waits] = operator;
                waits++;
            }
        }

        /** What waits and binds at least so much joins what it stands behind; a ( holds what is ahead of it. */
        private void release(int rank) {
            while (waits > 0 && rankOf(waiting[waits - 1]) >= rank) {
                waits--;
                emit(OPERATOR + waiting[waits]);
            }
        }

        private static int rankOf(int operator) {
            switch (operator) {
                case '<':
                case '>':
                case '=':
                    return 1;
                case '+':
                case '-':
                    return 2;
                case '*':
                case '/':
                    return 3;
                case AHEAD:
                    return 4;
                default:
                    return 0;
            }
        }

        int fondness(Bird bird, int word, int worth) {
            if (size == 0) {
                return bird.often[word] * 3 - bird.first[word] + bird.taught[word] * 5;
            }
            int top = 0;
            for (int i = 0; i < size; i++) {
                int token = code[i];
                if (token < OPERATOR) {
                    stack[top] = token < LETTER ? token : valueOf(token - LETTER, bird, word, worth);
                    top++;
                } else if (token == OPERATOR + AHEAD && top > 0) {
                    stack[top - 1] = -stack[top - 1];
                } else if (top > 1) {
                    top--;
                    stack[top - 1] = join(token - OPERATOR, stack[top - 1], stack[top]);
                }
            }
            return stack[0];
        }

        private static int valueOf(int letter, Bird bird, int word, int worth) {
            switch (letter) {
                case 0:
                    return bird.often[word];
                case 1:
                    return bird.first[word];
                case 2:
                    return bird.last[word];
                case 3:
                    return bird.taught[word];
                case 4:
                    return word;
                case 5:
                    return bird.heard;
                default:
                    return worth;
            }
        }

        private static int join(int operator, int left, int right) {
            switch (operator) {
                case '<':
                    return left < right ? 1 : 0;
                case '>':
                    return left > right ? 1 : 0;
                case '=':
                    return left == right ? 1 : 0;
                case '+':
                    return left + right;
                case '-':
                    return left - right;
                case '*':
                    return left * right;
                default:
                    return right == 0 ? 0 : left / right;
            }
        }
    }

    /** A parrot. */
    private static final class Bird {
        final int[] often = new int[WORDS];
        final int[] first = new int[WORDS];
        final int[] last = new int[WORDS];
        final int[] taught = new int[WORDS];
        int house;
        int memory;
        boolean covered;
        int heard;
        int out;

        void copyFrom(Bird bird) {
            System.arraycopy(bird.often, 0, often, 0, WORDS);
            System.arraycopy(bird.first, 0, first, 0, WORDS);
            System.arraycopy(bird.last, 0, last, 0, WORDS);
            System.arraycopy(bird.taught, 0, taught, 0, WORDS);
            house = bird.house;
            memory = bird.memory;
            covered = bird.covered;
            heard = bird.heard;
            out = bird.out;
        }

        void take(int word) {
            if (heard >= MOST_HEARD) {
                return;
            }
            if (often[word] == 0) {
                first[word] = heard;
            }
            last[word] = heard;
            often[word]++;
            heard++;
        }

        int known() {
            int bits = 0;
            for (int w = 0; w < WORDS; w++) {
                bits |= often[w] > 0 ? 1 << w : 0;
            }
            return bits;
        }
    }

    /** The day and all parrots: what can be kept and brought back. */
    private static final class Scene {
        final Bird[] birds = new Bird[MOST_PARROTS];
        int size;
        int day;

        Scene() {
            for (int p = 0; p < MOST_PARROTS; p++) {
                birds[p] = new Bird();
            }
        }

        void copyFrom(Scene scene) {
            size = scene.size;
            day = scene.day;
            for (int p = 0; p < size; p++) {
                birds[p].copyFrom(scene.birds[p]);
            }
        }

        boolean isIn(int parrot) {
            return parrot >= 0 && parrot < size;
        }

        /** The bird at the end has never heard anything: parrots only ever come. */
        void welcome(int house, int memory) {
            if (size < MOST_PARROTS) {
                birds[size].house = house;
                birds[size].memory = memory;
                size++;
            }
        }

        int covered() {
            int bits = 0;
            for (int p = 0; p < size; p++) {
                bits |= birds[p].covered ? 1 << p : 0;
            }
            return bits;
        }

        int spoken() {
            int bits = 0;
            for (int p = 0; p < size; p++) {
                bits |= birds[p].out > 0 ? 1 << p : 0;
            }
            return bits;
        }

        int known() {
            int bits = 0;
            for (int p = 0; p < size; p++) {
                bits |= birds[p].known();
            }
            return bits;
        }

        int heard() {
            int sum = 0;
            for (int p = 0; p < size; p++) {
                sum += birds[p].heard;
            }
            return sum;
        }
    }

    /** Scenes as they were ahead of the acts that can be undone, the latest last. */
    private static final class Past {
        final Scene[] scenes = new Scene[MOST_UNDONE];
        int size;

        Past() {
            for (int i = 0; i < MOST_UNDONE; i++) {
                scenes[i] = new Scene();
            }
        }

        void add(Scene scene) {
            if (size >= MOST_UNDONE) {
                dropOldest();
            }
            scenes[size].copyFrom(scene);
            size++;
        }

        private void dropOldest() {
            Scene oldest = scenes[0];
            for (int i = 1; i < MOST_UNDONE; i++) {
                scenes[i - 1] = scenes[i];
            }
            scenes[MOST_UNDONE - 1] = oldest;
            size = MOST_UNDONE - 1;
        }

        boolean bringBack(Scene scene) {
            if (size <= 0) {
                return false;
            }
            size--;
            scene.copyFrom(scenes[size]);
            return true;
        }
    }

    /** What a parrot says, in turn. */
    private static final class Tongue {
        final int[] words = new int[WORDS];
        final int[] fond = new int[WORDS];
        final int[][] common = new int[WORDS + 1][WORDS + 1];
        int size;

        void follow(Bird bird, Rule rule, int[] worths) {
            size = 0;
            for (int w = 0; w < WORDS; w++) {
                if (bird.often[w] > 0) {
                    insert(w, rule.fondness(bird, w, worths[w]));
                }
            }
            size = Math.min(size, bird.memory);
        }

        /** Words come from the least on, so that a like one stays behind. */
        private void insert(int word, int fondness) {
            int place = size;
            while (place > 0 && fond[place - 1] < fondness) {
                words[place] = words[place - 1];
                fond[place] = fond[place - 1];
                place--;
            }
            words[place] = word;
            fond[place] = fondness;
            size++;
        }

        int at(int place) {
            return place >= 0 && place < size ? words[place] : NONE;
        }

        int placeOf(int word) {
            for (int i = 0; i < size; i++) {
                if (words[i] == word) {
                    return i;
                }
            }
            return NONE;
        }

        boolean isAhead(int word, int other) {
            return placeOf(word) < placeOf(other);
        }

        int bits(int k) {
            int bits = 0;
            for (int i = 0; i < k && i < size; i++) {
                bits |= 1 << words[i];
            }
            return bits;
        }

        /** The first place at which the other one says something else, or NONE. */
        int differsAt(Tongue other) {
            int most = Math.max(size, other.size);
            for (int i = 0; i < most; i++) {
                if (at(i) != other.at(i)) {
                    return i;
                }
            }
            return NONE;
        }

        /** Fills common: how many words at most, from two places on, both say in the same order. */
        void compare(Tongue other) {
            for (int i = size; i >= 0; i--) {
                for (int j = other.size; j >= 0; j--) {
                    if (i == size || j == other.size) {
                        common[i][j] = 0;
                    } else if (words[i] == other.words[j]) {
                        common[i][j] = 1 + common[i + 1][j + 1];
                    } else {
                        common[i][j] = Math.max(common[i + 1][j], common[i][j + 1]);
                    }
                }
            }
        }
    }

    /** What was told to be before what. */
    private static final class Tellings {
        static final int WHICH = (1 << MOST_TELLINGS) - 1;
        static final int BEYOND = 1 << 30;

        final int[] earlier = new int[MOST_TELLINGS];
        final int[] after = new int[MOST_TELLINGS];
        final int[] nexts = new int[WORDS];
        final int[] backs = new int[WORDS + 1];
        final int[] costs = new int[1 << WORDS];
        int size;

        void add(int first, int second) {
            if (size < MOST_TELLINGS) {
                earlier[size] = first;
                after[size] = second;
                size++;
            }
        }

        void gatherNexts() {
            for (int w = 0; w < WORDS; w++) {
                nexts[w] = 0;
            }
            for (int i = 0; i < size; i++) {
                nexts[earlier[i]] |= 1 << after[i];
            }
        }

        /**
         * Whether a ring of this length goes from its least word on. No shorter ring may be
         * anywhere: then a way back to the least word meets no word twice.
         */
        boolean hasRing(int least, int length) {
            backs[0] = 1 << least;
            for (int steps = 1; steps < length; steps++) {
                backs[steps] = 0;
                for (int w = least + 1; w < WORDS; w++) {
                    backs[steps] |= (nexts[w] & backs[steps - 1]) != 0 ? 1 << w : 0;
                }
            }
            return (nexts[least] & backs[length - 1]) != 0;
        }

        /** Behind hasRing() of the same ring alone: by its ways back. */
        void tellRing(int least, int length, Told told) {
            told.only(least);
            int word = least;
            for (int steps = length - 1; steps >= 1; steps--) {
                word = Math.max(0, lowestOf(nexts[word] & backs[steps]));
                told.add(word);
            }
        }

        /**
         * The least cost of tellings dropped, over all orders of the words: a telling costs
         * one, told above the bits of which they are, so that the fewest come first.
         */
        int leastCost() {
            costs[0] = 0;
            for (int group = 1; group < 1 << WORDS; group++) {
                int least = BEYOND;
                for (int w = 0; w < WORDS; w++) {
                    if ((group >> w & 1) != 0) {
                        int ahead = group & ~(1 << w);
                        least = Math.min(least, costs[ahead] + costOfBehind(w, ahead));
                    }
                }
                costs[group] = least;
            }
            return costs[(1 << WORDS) - 1];
        }

        /** The cost of tellings that don't hold if a word comes behind a group. */
        private int costOfBehind(int word, int group) {
            int cost = 0;
            for (int i = 0; i < size; i++) {
                if (earlier[i] == word && (group >> after[i] & 1) != 0) {
                    cost += 1 << MOST_TELLINGS | 1 << i;
                }
            }
            return cost;
        }
    }

    /** What was noted of the parrot that was in the room. */
    private static final class Notes {
        static final int SAYS = 0;
        static final int SAYS_NOT = 1;
        static final int LIVES_IN = 2;
        static final int REMEMBERS = 3;
        static final int SAYS_FIRST = 4;

        final int[] kinds = new int[MOST_NOTES];
        final int[] values = new int[MOST_NOTES];
        int size;

        void add(int kind, int value) {
            if (size < MOST_NOTES) {
                kinds[size] = kind;
                values[size] = value;
                size++;
            }
        }

        boolean suit(Bird bird, Tongue tongue) {
            for (int i = 0; i < size; i++) {
                if (!suits(kinds[i], values[i], bird, tongue)) {
                    return false;
                }
            }
            return true;
        }

        private static boolean suits(int kind, int value, Bird bird, Tongue tongue) {
            switch (kind) {
                case SAYS:
                    return tongue.placeOf(value) != NONE;
                case SAYS_NOT:
                    return tongue.placeOf(value) == NONE;
                case LIVES_IN:
                    return bird.house == value;
                case REMEMBERS:
                    return bird.memory >= value;
                default:
                    return tongue.at(0) == value;
            }
        }
    }

    /** Numbers drawn by a seed. */
    private static final class Draw {
        int r;

        Draw(int seed) {
            r = seed;
        }

        int next(int n) {
            r = r * 1103515245 + 12345;
            return n > 0 ? (r >>> 16) % n : 0;
        }
    }
}
