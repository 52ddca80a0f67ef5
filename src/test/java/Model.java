import java.math.BigInteger;
import java.util.ArrayList;
import java.util.Arrays;
import java.util.List;

/**
 * A second telling of the document, slow and plain: whole copies of the state, all subsets, all
 * ways. ModelTest asks it and ParrotsLast the same and compares.
 */
final class Model {
    static final String RULE = "n*3-f+t*5";

    static final class Parrot {
        int house;
        int memory;
        boolean cloth;
        int out;
        List<Integer> heard = new ArrayList<>();
        int[] taught = new int[8];

        Parrot copy() {
            Parrot p = new Parrot();
            p.house = house;
            p.memory = memory;
            p.cloth = cloth;
            p.out = out;
            p.heard = new ArrayList<>(heard);
            p.taught = taught.clone();
            return p;
        }

        void hears(int word) {
            if (heard.size() < 9999) {
                heard.add(word);
            }
        }

        int times(int word) {
            int n = 0;
            for (int w : heard) {
                n += w == word ? 1 : 0;
            }
            return n;
        }
    }

    static final class State {
        int day;
        List<Parrot> parrots = new ArrayList<>();

        State copy() {
            State s = new State();
            s.day = day;
            for (Parrot p : parrots) {
                s.parrots.add(p.copy());
            }
            return s;
        }
    }

    StringBuilder text = new StringBuilder();
    String[] houses = {"a", "a", "a", "a"};
    int[] worths = {1, 1, 1, 1, 1, 1, 1, 1};
    String rule = RULE;
    State state = new State();
    List<State> past = new ArrayList<>();
    State[] kept = new State[2];
    List<int[]> tellings = new ArrayList<>();
    List<int[]> notes = new ArrayList<>();
    List<Long> row = new ArrayList<>();

    void tell(long... numbers) {
        row.clear();
        for (long n : numbers) {
            row.add(n);
        }
    }

    String take() {
        String t = text.toString();
        text.setLength(0);
        return t;
    }

    boolean isParrot(int p) {
        return p >= 0 && p < state.parrots.size();
    }

    static boolean within(int v, int low, int high) {
        return v >= low && v <= high;
    }

    // ---- houses, parrots, worths

    int sign(int v) {
        if (text.length() > 76) {
            return -1;
        }
        for (int i = 3; i >= 0; i--) {
            text.append((char) ((v >> 8 * i) & 0xff));
        }
        return text.length();
    }

    boolean end(int n) {
        if (!within(n, 0, text.length())) {
            return false;
        }
        text.setLength(n);
        return true;
    }

    static int badTale(String t) {
        for (int p = 0; p < t.length(); p++) {
            if (p == 16 || !within(t.charAt(p), 'a', 'h')) {
                return p;
            }
        }
        return -1;
    }

    int house(int house) {
        String t = take();
        if (!within(house, 0, 3)) {
            return -100;
        }
        if (t.isEmpty() || badTale(t) >= 0) {
            return -1 - Math.max(0, badTale(t));
        }
        houses[house] = t;
        return t.length();
    }

    int parrots() {
        String t = take();
        if (t.isEmpty()) {
            return 0;
        }
        int p = 0;
        List<Parrot> more = new ArrayList<>();
        while (true) {
            if (p >= t.length() || p == 17 || !within(t.charAt(p), '0', '3') || state.parrots.size() + more.size() == 6) {
                return -1 - p;
            }
            Parrot parrot = new Parrot();
            parrot.house = t.charAt(p++) - '0';
            if (p >= t.length() || p == 17 || !within(t.charAt(p), '1', '8')) {
                return -1 - p;
            }
            parrot.memory = t.charAt(p++) - '0';
            more.add(parrot);
            if (p == t.length()) {
                state.parrots.addAll(more);
                past.clear();
                return more.size();
            }
            if (p == 17 || t.charAt(p) != ';') {
                return -1 - p;
            }
            p++;
        }
    }

    int worths() {
        String t = take();
        int p = 0;
        while (p < t.length() && p < 8 && Character.isDigit(t.charAt(p)) && t.charAt(p) < 128) {
            p++;
        }
        if (p < 8 || t.length() > 8) {
            return -1 - p;
        }
        for (int w = 0; w < 8; w++) {
            worths[w] = t.charAt(w) - '0';
        }
        return Arrays.stream(worths).sum();
    }

    int rule() {
        String t = take();
        int bad = RuleReader.bad(t);
        if (bad >= 0) {
            return -1 - bad;
        }
        rule = t.isEmpty() ? RULE : t;
        return 0;
    }

    /** Reads a rule by descent; each thing is worked out at once. */
    static final class RuleReader {
        static final class Bad extends RuntimeException {
            private static final long serialVersionUID = 1L;
        }

        final String t;
        final int[] letters;
        int p;
        int depth;

        RuleReader(String t, int[] letters) {
            this.t = t;
            this.letters = letters;
        }

        static int bad(String t) {
            if (t.isEmpty()) {
                return -1;
            }
            String head = t.length() > 40 ? t.substring(0, 40) : t;
            RuleReader r = new RuleReader(head, new int[7]);
            boolean fine;
            try {
                r.expression();
                fine = r.p == head.length();
            } catch (Bad e) {
                fine = false;
            }
            if (!fine && r.p < head.length()) {
                return r.p;
            }
            return t.length() > 40 ? 40 : fine ? -1 : r.p;
        }

        static int value(String t, int[] letters) {
            return new RuleReader(t, letters).expression();
        }

        char sign() {
            return p < t.length() ? t.charAt(p) : '\uffff';
        }

        int expression() {
            int left = sum();
            char c = sign();
            if (c != '<' && c != '>' && c != '=') {
                return left;
            }
            p++;
            int right = sum();
            return (c == '<' ? left < right : c == '>' ? left > right : left == right) ? 1 : 0;
        }

        int sum() {
            int v = product();
            while (sign() == '+' || sign() == '-') {
                if (t.charAt(p++) == '+') {
                    v += product();
                } else {
                    v -= product();
                }
            }
            return v;
        }

        int product() {
            int v = thing();
            while (sign() == '*' || sign() == '/') {
                if (t.charAt(p++) == '*') {
                    v *= thing();
                } else {
                    int by = thing();
                    v = by == 0 ? 0 : v / by;
                }
            }
            return v;
        }

        int thing() {
            char c = sign();
            if (c == '-') {
                p++;
                return -thing();
            }
            if (c == '(' && depth < 4) {
                p++;
                depth++;
                int v = expression();
                if (sign() != ')') {
                    throw new Bad();
                }
                p++;
                depth--;
                return v;
            }
            if (within(c, '0', '9')) {
                int v = 0;
                for (int i = 0; i < 3 && within(sign(), '0', '9'); i++) {
                    v = v * 10 + t.charAt(p++) - '0';
                }
                return v;
            }
            int letter = "nfltwhv".indexOf(c);
            if (letter < 0) {
                throw new Bad();
            }
            p++;
            return letters[letter];
        }
    }

    int fondness(Parrot p, int w, String by) {
        int[] letters = {p.times(w), p.heard.indexOf(w), p.heard.lastIndexOf(w), p.taught[w], w, p.heard.size(), worths[w]};
        return RuleReader.value(by, letters);
    }

    List<Integer> says(Parrot p, String by) {
        List<Integer> words = new ArrayList<>();
        for (int w = 0; w < 8; w++) {
            if (p.heard.contains(w)) {
                words.add(w);
            }
        }
        words.sort((v, w) -> {
            int order = Integer.compare(fondness(p, w, by), fondness(p, v, by));
            return order != 0 ? order : Integer.compare(v, w);
        });
        return new ArrayList<>(words.subList(0, Math.min(words.size(), p.memory)));
    }

    List<Integer> saysNow(int p) {
        return says(state.parrots.get(p), rule);
    }

    /** null: it throws. */
    Integer parrot(int parrot, int what) {
        if (!isParrot(parrot) || !within(what, 0, 5)) {
            return null;
        }
        Parrot p = state.parrots.get(parrot);
        int bits = 0;
        for (int w : p.heard) {
            bits |= 1 << w;
        }
        return new int[] {p.house, p.memory, p.cloth ? 1 : 0, p.heard.size(), bits, p.out}[what];
    }

    Integer word(int parrot, int word, int what) {
        if (!isParrot(parrot) || !within(word, 0, 7) || !within(what, 0, 4)) {
            return null;
        }
        Parrot p = state.parrots.get(parrot);
        int fond = p.heard.contains(word) ? fondness(p, word, rule) : 0;
        return new int[] {p.times(word), p.heard.indexOf(word), p.heard.lastIndexOf(word), p.taught[word], fond}[what];
    }

    int wordAt(int house, int day) {
        return houses[house].charAt(day % houses[house].length()) - 'a';
    }

    int said(int house, int n) {
        return within(house, 0, 3) && within(n, 0, 99) ? wordAt(house, state.day + n) : -1;
    }

    int sheet(int kind, int n, int f, int step) {
        if (!within(kind, 0, 3) || n > 8) {
            return -1;
        }
        if (kind < 3 && n < 0) {
            return -2;
        }
        Arrays.fill(worths, 0);
        if (kind == 3) {
            return -3;
        }
        for (int i = 0; i < n; i++) {
            int v = f + i * step;
            v = kind == 0 ? (byte) v : kind == 1 ? (short) v : v;
            worths[i] = v < 0 ? 0 : v > 9 ? 9 : v;
        }
        return Arrays.stream(worths).sum();
    }

    // ---- days, trials

    void day(State s) {
        for (Parrot p : s.parrots) {
            if (!p.cloth) {
                p.hears(wordAt(p.house, s.day));
            }
        }
        s.day++;
    }

    int daysOf(State s, int n) {
        for (int i = 0; i < n; i++) {
            day(s);
        }
        return s.day;
    }

    int moveOf(State s, int parrot, int house) {
        if (!within(parrot, 0, s.parrots.size() - 1) || !within(house, 0, 3)) {
            return -1;
        }
        Parrot p = s.parrots.get(parrot);
        if (p.house == house) {
            return -2;
        }
        int old = p.house;
        p.house = house;
        return old;
    }

    int clothOf(State s, int parrot) {
        if (!within(parrot, 0, s.parrots.size() - 1)) {
            return -1;
        }
        s.parrots.get(parrot).cloth ^= true;
        int n = 0;
        for (Parrot p : s.parrots) {
            n += p.cloth ? 1 : 0;
        }
        return n;
    }

    int teachOf(State s, int parrot, int word) {
        if (!within(parrot, 0, s.parrots.size() - 1) || !within(word, 0, 7)) {
            return -1;
        }
        Parrot p = s.parrots.get(parrot);
        if (!p.heard.contains(word)) {
            return -2;
        }
        if (p.taught[word] < 99) {
            p.taught[word]++;
        }
        return p.taught[word];
    }

    int speakOf(State s, int parrot) {
        if (!within(parrot, 0, s.parrots.size() - 1)) {
            return -1;
        }
        Parrot p = s.parrots.get(parrot);
        if (p.cloth) {
            return -2;
        }
        List<Integer> words = says(p, rule);
        if (p.out >= words.size()) {
            return -3;
        }
        int word = words.get(p.out++);
        for (Parrot q : s.parrots) {
            if (q != p && !q.cloth && q.house == p.house) {
                q.hears(word);
            }
        }
        return word;
    }

    int hushOf(State s) {
        int n = 0;
        for (Parrot p : s.parrots) {
            n += p.out > 0 ? 1 : 0;
            p.out = 0;
        }
        return n;
    }

    int act(State ahead, int answer, boolean done) {
        if (done) {
            past.add(ahead);
            if (past.size() > 12) {
                past.remove(0);
            }
        }
        return answer;
    }

    int days(int n) {
        if (!within(n, 0, 60)) {
            return -1;
        }
        State ahead = state.copy();
        daysOf(state, n);
        row.clear();
        for (int p = 0; p < state.parrots.size(); p++) {
            long fresh = 0;
            for (int w = 0; w < 8; w++) {
                fresh += state.parrots.get(p).heard.contains(w) && !ahead.parrots.get(p).heard.contains(w) ? 1 : 0;
            }
            row.add(fresh);
        }
        return act(ahead, state.day, n > 0);
    }

    int move(int parrot, int house) {
        State ahead = state.copy();
        int answer = moveOf(state, parrot, house);
        return act(ahead, answer, answer >= 0);
    }

    int cloth(int parrot) {
        State ahead = state.copy();
        int answer = clothOf(state, parrot);
        return act(ahead, answer, answer >= 0);
    }

    int teach(int parrot, int word) {
        State ahead = state.copy();
        int answer = teachOf(state, parrot, word);
        return act(ahead, answer, answer >= 0);
    }

    int speak(int parrot) {
        State ahead = state.copy();
        int answer = speakOf(state, parrot);
        return act(ahead, answer, answer >= 0);
    }

    int hush() {
        State ahead = state.copy();
        int answer = hushOf(state);
        return act(ahead, answer, answer > 0);
    }

    int trial() {
        String t = take();
        String shapes = "d0 m00 k0 t0a s0 x";
        List<String> acts = new ArrayList<>();
        int p = 0;
        while (p < t.length()) {
            int at = p == 60 || " 0a".indexOf(t.charAt(p)) >= 0 ? -1 : shapes.indexOf(t.charAt(p));
            if (at < 0) {
                return -1 - p;
            }
            int end = shapes.indexOf(' ', at);
            String shape = shapes.substring(at, end < 0 ? shapes.length() : end);
            for (int i = 1; i < shape.length(); i++) {
                int q = p + i;
                boolean digit = shape.charAt(i) == '0';
                if (q >= t.length() || q == 60 || !within(t.charAt(q), digit ? '0' : 'a', digit ? '9' : 'h')) {
                    return -1 - q;
                }
            }
            acts.add(t.substring(p, p + shape.length()));
            p += shape.length();
        }
        State ahead = state.copy();
        int done = 0;
        boolean failed = false;
        for (String a : acts) {
            if (doAct(a) < 0) {
                failed = true;
                break;
            }
            done++;
        }
        tell(failed ? 1 : 0, state.day);
        return act(ahead, done, done > 0);
    }

    int doAct(String a) {
        int v = a.length() > 1 ? a.charAt(1) - '0' : 0;
        switch (a.charAt(0)) {
            case 'd':
                return daysOf(state, v);
            case 'm':
                return moveOf(state, v, a.charAt(2) - '0');
            case 'k':
                return clothOf(state, v);
            case 't':
                return teachOf(state, v, a.charAt(2) - 'a');
            case 's':
                return speakOf(state, v);
            default:
                return hushOf(state);
        }
    }

    int undo() {
        if (past.isEmpty()) {
            return -1;
        }
        state = past.remove(past.size() - 1);
        return past.size();
    }

    // ---- what they say

    int tellWords(List<Integer> words) {
        row.clear();
        for (int w : words) {
            row.add((long) w);
        }
        return words.size();
    }

    int says(int parrot) {
        return isParrot(parrot) ? tellWords(saysNow(parrot)) : -1;
    }

    int place(int parrot, int word) {
        if (!isParrot(parrot) || !within(word, 0, 7)) {
            return -1;
        }
        int place = saysNow(parrot).indexOf(word);
        return place < 0 ? -2 : place;
    }

    int soonest(int word) {
        if (!within(word, 0, 7)) {
            return -1;
        }
        int many = 0;
        int best = -1;
        for (int p = 0; p < state.parrots.size(); p++) {
            if (saysNow(p).contains(word)) {
                many++;
                if (best < 0 || saysNow(p).indexOf(word) < saysNow(best).indexOf(word)) {
                    best = p;
                }
            }
        }
        if (many == 0) {
            return -2;
        }
        tell(saysNow(best).indexOf(word), many);
        return best;
    }

    int unsaid() {
        int unsaid = 0;
        int unheard = 0;
        for (int w = 0; w < 8; w++) {
            boolean said = false;
            boolean heard = false;
            for (Parrot p : state.parrots) {
                said |= says(p, rule).contains(w);
                heard |= p.heard.contains(w);
            }
            unsaid |= said ? 0 : 1 << w;
            unheard |= heard ? 0 : 1 << w;
        }
        tell(unheard);
        return unsaid;
    }

    List<Integer> saysIn(int parrot, int n) {
        State s = state.copy();
        daysOf(s, n);
        return says(s.parrots.get(parrot), rule);
    }

    int later(int parrot, int n) {
        return isParrot(parrot) && within(n, 0, 60) ? tellWords(saysIn(parrot, n)) : -1;
    }

    int alters(int parrot) {
        if (!isParrot(parrot)) {
            return -1;
        }
        List<Integer> now = saysNow(parrot);
        for (int n = 1; n <= 60; n++) {
            List<Integer> then = saysIn(parrot, n);
            if (!then.equals(now)) {
                int i = 0;
                while (i < now.size() && i < then.size() && now.get(i).equals(then.get(i))) {
                    i++;
                }
                tell(i, i < then.size() ? then.get(i) : -1);
                return n;
            }
        }
        return -2;
    }

    // ---- crackers, hearings

    int crackers(int parrot, int word) {
        if (!isParrot(parrot) || !within(word, 0, 7)) {
            return -1;
        }
        State s = state.copy();
        for (int n = 0; n <= 40; n++) {
            List<Integer> words = says(s.parrots.get(parrot), rule);
            if (!words.isEmpty() && words.get(0) == word) {
                return n;
            }
            teachOf(s, parrot, word);
        }
        return -2;
    }

    int stay(int parrot, int house, int word) {
        if (!isParrot(parrot) || !within(house, 0, 3) || !within(word, 0, 7)) {
            return -1;
        }
        State s = state.copy();
        s.parrots.get(parrot).house = house;
        s.parrots.get(parrot).cloth = false;
        for (int n = 0; n <= 60; n++) {
            List<Integer> words = says(s.parrots.get(parrot), rule);
            if (!words.isEmpty() && words.get(0) == word) {
                return n;
            }
            day(s);
        }
        return -2;
    }

    int hear(int those, int k) {
        if (!within(those, 0, 255) || !within(k, 1, 8)) {
            return -1;
        }
        int n = state.parrots.size();
        for (int many = 0; many <= n; many++) {
            for (int group = 0; group < 1 << n; group++) {
                if (Integer.bitCount(group) == many && hearsAll(those, k, group)) {
                    tell(group);
                    return many;
                }
            }
        }
        return -2;
    }

    boolean hearsAll(int those, int k, int group) {
        for (int w = 0; w < 8; w++) {
            boolean found = (those >> w & 1) == 0;
            for (int p = 0; p < state.parrots.size(); p++) {
                int place = saysNow(p).indexOf(w);
                found |= (group >> p & 1) == 1 && place >= 0 && place < k;
            }
            if (!found) {
                return false;
            }
        }
        return true;
    }

    int gainOf(int parrot, int k) {
        return saysNow(parrot).stream().limit(k).mapToInt(w -> worths[w]).sum();
    }

    int gain(int parrot, int k) {
        if (!isParrot(parrot) || !within(k, 0, 8)) {
            return -1;
        }
        int best = 0;
        for (int p = 0; p < state.parrots.size(); p++) {
            best = gainOf(p, k) > gainOf(best, k) ? p : best;
        }
        tell(best, gainOf(best, k));
        return gainOf(parrot, k);
    }

    // ---- rows of words

    /** The fewest of a over all ways, 99 if there is none. */
    static int ways(String tale, String a, String b) {
        if (tale.isEmpty()) {
            return 0;
        }
        int best = 99;
        if (!a.isEmpty() && a.charAt(0) == tale.charAt(0)) {
            best = Math.min(best, 1 + ways(tale.substring(1), a.substring(1), b));
        }
        if (!b.isEmpty() && b.charAt(0) == tale.charAt(0)) {
            best = Math.min(best, ways(tale.substring(1), a, b.substring(1)));
        }
        return best;
    }

    int blend(int one, int other) {
        String t = take();
        if (!within(one, 0, 3) || !within(other, 0, 3) || one == other) {
            return -100;
        }
        if (badTale(t) >= 0) {
            return -1 - badTale(t);
        }
        int fewest = ways(t, houses[one], houses[other]);
        if (fewest >= 99) {
            return 0;
        }
        tell(fewest);
        return 1;
    }

    int source() {
        String t = take();
        if (badTale(t) >= 0) {
            return -1 - badTale(t);
        }
        List<Integer> pairs = new ArrayList<>();
        for (int pair : new int[] {1, 2, 3, 12, 13, 23}) {
            if (ways(t, houses[pair / 10], houses[pair % 10]) < 99) {
                pairs.add(pair);
            }
        }
        if (pairs.isEmpty()) {
            return -200;
        }
        tell(pairs.size());
        return pairs.get(0);
    }

    static List<Integer> chosen(List<Integer> words, int bits) {
        List<Integer> some = new ArrayList<>();
        for (int i = 0; i < words.size(); i++) {
            if ((bits >> i & 1) == 1) {
                some.add(words.get(i));
            }
        }
        return some;
    }

    static boolean isLess(List<Integer> a, List<Integer> b) {
        for (int i = 0; i < a.size() && i < b.size(); i++) {
            if (!a.get(i).equals(b.get(i))) {
                return a.get(i) < b.get(i);
            }
        }
        return a.size() < b.size();
    }

    boolean isPair(int one, int other) {
        return isParrot(one) && isParrot(other) && one != other;
    }

    int alike(int one, int other) {
        if (!isPair(one, other)) {
            return -1;
        }
        List<Integer> a = saysNow(one);
        List<Integer> b = saysNow(other);
        List<Integer> best = new ArrayList<>();
        for (int i = 0; i < 1 << a.size(); i++) {
            List<Integer> some = chosen(a, i);
            List<Integer> there = new ArrayList<>(b);
            there.retainAll(some);
            boolean better = some.size() > best.size() || some.size() == best.size() && isLess(some, best);
            if (there.equals(some) && better) {
                best = some;
            }
        }
        return tellWords(best);
    }

    int unlike(int one, int other) {
        if (!isPair(one, other)) {
            return -1;
        }
        List<Integer> a = saysNow(one);
        List<Integer> b = saysNow(other);
        a.retainAll(b);
        int pairs = 0;
        for (int i = 0; i < a.size(); i++) {
            for (int j = i + 1; j < a.size(); j++) {
                pairs += b.indexOf(a.get(i)) > b.indexOf(a.get(j)) ? 1 : 0;
            }
        }
        tell(a.size());
        return pairs;
    }

    // ---- what was before what

    int before(int one, int other) {
        if (!within(one, 0, 7) || !within(other, 0, 7) || one == other || tellings.size() == 12) {
            return -1;
        }
        tellings.add(new int[] {one, other});
        return tellings.size();
    }

    int forget() {
        int n = tellings.size();
        tellings.clear();
        return n;
    }

    List<Integer> ring;

    void rings(List<Integer> path) {
        for (int[] t : tellings) {
            if (t[0] != path.get(path.size() - 1)) {
                continue;
            }
            if (t[1] == path.get(0)) {
                boolean better = ring == null || path.size() < ring.size() || path.size() == ring.size() && isLess(path, ring);
                ring = better ? new ArrayList<>(path) : ring;
            } else if (t[1] > path.get(0) && !path.contains(t[1])) {
                path.add(t[1]);
                rings(path);
                path.remove(path.size() - 1);
            }
        }
    }

    int clash() {
        ring = null;
        for (int w = 0; w < 8; w++) {
            List<Integer> path = new ArrayList<>();
            path.add(w);
            rings(path);
        }
        return ring == null ? -2 : tellWords(ring);
    }

    boolean clashes(int without) {
        boolean[][] before = new boolean[8][8];
        for (int i = 0; i < tellings.size(); i++) {
            if ((without >> i & 1) == 0) {
                before[tellings.get(i)[0]][tellings.get(i)[1]] = true;
            }
        }
        for (int k = 0; k < 8; k++) {
            for (int i = 0; i < 8; i++) {
                for (int j = 0; j < 8; j++) {
                    before[i][j] |= before[i][k] && before[k][j];
                }
            }
        }
        boolean clash = false;
        for (int w = 0; w < 8; w++) {
            clash |= before[w][w];
        }
        return clash;
    }

    int drop() {
        for (int many = 0; many <= 12; many++) {
            for (int some = 0; some < 1 << tellings.size(); some++) {
                if (Integer.bitCount(some) == many && !clashes(some)) {
                    tell(some);
                    return many;
                }
            }
        }
        throw new IllegalStateException();
    }

    // ---- counsels, chances, which it was

    int lead(List<Integer> words) {
        if (words.isEmpty()) {
            return 0;
        }
        int last = words.size() - 1;
        return Math.max(worths[words.get(0)] - lead(words.subList(1, last + 1)), worths[words.get(last)] - lead(words.subList(0, last)));
    }

    int counsels(int parrot) {
        if (!isParrot(parrot)) {
            return -1;
        }
        List<Integer> words = saysNow(parrot);
        int lead = lead(words);
        if (words.isEmpty()) {
            tell(-1);
        } else {
            tell(worths[words.get(0)] - lead(words.subList(1, words.size())) == lead ? 0 : 1);
        }
        return 100 + lead;
    }

    int sure(int parrot, int p, int k) {
        if (!isParrot(parrot) || !within(p, 0, 10) || !within(k, 0, 8)) {
            return -1;
        }
        int n = saysNow(parrot).size();
        BigInteger upper = BigInteger.ZERO;
        for (int right = 0; right < 1 << n; right++) {
            int many = Integer.bitCount(right);
            if (many >= k) {
                upper = upper.add(BigInteger.valueOf(p).pow(many).multiply(BigInteger.valueOf(10 - p).pow(n - many)));
            }
        }
        BigInteger lower = BigInteger.TEN.pow(n);
        BigInteger by = upper.gcd(lower);
        tell(upper.divide(by).longValueExact(), lower.divide(by).longValueExact());
        return 0;
    }

    int note(int what, int v) {
        boolean fine = what == 2 ? within(v, 0, 3) : what == 3 ? within(v, 1, 8) : within(v, 0, 7);
        if (!fine || !within(what, 0, 4) || notes.size() == 12) {
            return -1;
        }
        notes.add(new int[] {what, v});
        return notes.size();
    }

    int strike() {
        int n = notes.size();
        notes.clear();
        return n;
    }

    boolean fit(int parrot) {
        Parrot p = state.parrots.get(parrot);
        List<Integer> words = saysNow(parrot);
        for (int[] note : notes) {
            int v = note[1];
            boolean[] holds = {words.contains(v), !words.contains(v), p.house == v, p.memory >= v, words.indexOf(v) == 0};
            if (!holds[note[0]]) {
                return false;
            }
        }
        return true;
    }

    int fits() {
        int bits = 0;
        for (int p = 0; p < state.parrots.size(); p++) {
            bits |= fit(p) ? 1 << p : 0;
        }
        tell(Integer.bitCount(bits));
        return bits;
    }

    int ask() {
        int bestWord = -2;
        int best = 99;
        for (int w = 0; w < 8; w++) {
            int yes = 0;
            int no = 0;
            for (int p = 0; p < state.parrots.size(); p++) {
                if (fit(p) && saysNow(p).contains(w)) {
                    yes++;
                } else if (fit(p)) {
                    no++;
                }
            }
            if (yes + no > 0 && Math.max(yes, no) < best) {
                best = Math.max(yes, no);
                bestWord = w;
            }
        }
        if (bestWord >= 0) {
            tell(best);
        }
        return bestWord;
    }

    // ---- rests, rules, trials

    static int has(int own, int others, int v) {
        return own + others == 0 ? 10 : 20 * own / (own + others) - v * own;
    }

    int rests(int v) {
        if (!within(v, 0, 9)) {
            return -1;
        }
        row.clear();
        int pairs = 0;
        for (int i = 0; i < 100; i++) {
            int x = i / 10;
            int y = i % 10;
            boolean rests = true;
            for (int z = 0; z < 10; z++) {
                rests &= has(z, y, v) <= has(x, y, v) && has(z, x, v) <= has(y, x, v);
            }
            if (rests && pairs++ == 0) {
                tell(x, y);
            }
        }
        return pairs;
    }

    int law() {
        String t = take();
        int bad = RuleReader.bad(t);
        if (bad >= 0) {
            return -10000 - bad;
        }
        int bits = 0;
        for (int p = 0; p < state.parrots.size(); p++) {
            bits |= saysNow(p).equals(says(state.parrots.get(p), t.isEmpty() ? RULE : t)) ? 0 : 1 << p;
        }
        tell(bits);
        return Integer.bitCount(bits);
    }

    int r;

    int draw(int n) {
        r = r * 1103515245 + 12345;
        return (int) ((r & 0xffffffffL) / 65536 % n);
    }

    int years(int seed, int n) {
        if (!within(n, 1, 60)) {
            return -1;
        }
        r = seed;
        State s = state.copy();
        int many = s.parrots.size();
        int spoke = 0;
        for (int i = 0; i < n; i++) {
            int what = draw(5);
            if (what <= 1) {
                day(s);
            } else if (many > 0) {
                int p = draw(many);
                if (what == 2) {
                    spoke += speakOf(s, p) >= 0 ? 1 : 0;
                } else if (what == 3) {
                    moveOf(s, p, draw(4));
                } else {
                    teachOf(s, p, draw(8));
                }
            }
        }
        long heard = 0;
        long words = 0;
        for (Parrot p : s.parrots) {
            heard += p.heard.size();
            for (int w : p.heard) {
                words |= 1L << w;
            }
        }
        tell(heard, words);
        return spoke;
    }

    // ---- kept

    boolean keep(int i) {
        if (within(i, 0, 1)) {
            kept[i] = state.copy();
        }
        return within(i, 0, 1);
    }

    boolean again(int i) {
        if (!within(i, 0, 1) || kept[i] == null || kept[i].parrots.size() != state.parrots.size()) {
            return false;
        }
        state = kept[i].copy();
        past.clear();
        return true;
    }

    int count(int what) {
        int cloths = 0;
        int spoken = 0;
        for (int p = 0; p < state.parrots.size(); p++) {
            cloths |= state.parrots.get(p).cloth ? 1 << p : 0;
            spoken |= state.parrots.get(p).out > 0 ? 1 << p : 0;
        }
        int[] counts = {state.parrots.size(), state.day, cloths, spoken, tellings.size(), notes.size(), past.size(), row.size(), text.length()};
        if (within(what, 0, 8)) {
            return counts[what];
        }
        return within(what, 10, 13) ? houses[what - 10].length() : -100;
    }
}
