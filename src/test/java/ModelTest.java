import java.util.NoSuchElementException;
import java.util.Random;

/** Random runs, the same numbers each time: ParrotsLast answers as the plain model does, and keeps its ROW. */
public final class ModelTest {
    private static final int RUNS = 400;
    private static final int CALLS = 300;

    private final Random random;
    private final ParrotsLast x = new ParrotsLast();
    private final Model model = new Model();
    private final StringBuilder log = new StringBuilder();

    private ModelTest(long seed) {
        random = new Random(seed);
    }

    public static void main(String[] args) {
        int runs = args.length > 0 ? Integer.parseInt(args[0]) : RUNS;
        int wrong = 0;
        for (int run = 0; run < runs && wrong < 3; run++) {
            String fault = new ModelTest(run).run();
            if (fault != null) {
                wrong++;
                System.out.println("run " + run + ": " + fault);
            }
        }
        System.out.println("ModelTest: " + (wrong == 0 ? "all answers are as due" : "answers are not as due"));
        if (wrong != 0) {
            System.exit(1);
        }
    }

    private String run() {
        if (random.nextInt(10) > 0) {
            setUp();
        }
        for (int call = 0; call < CALLS; call++) {
            String fault = step();
            if (fault == null) {
                fault = compareRow();
            }
            if (fault != null) {
                return fault + "\n" + log;
            }
        }
        return compareAll();
    }

    private void setUp() {
        for (int h = 0; h < 4; h++) {
            put(words(1 + random.nextInt(12)));
            x.house(h);
            model.house(h);
        }
        put(lines(1 + random.nextInt(6)));
        x.parrots();
        model.parrots();
        log.append("(set up)\n");
    }

    private void put(String text) {
        x.end(0);
        model.end(0);
        for (int p = 0; p < text.length(); p += 4) {
            int v = 0;
            for (int i = 0; i < 4; i++) {
                v = v << 8 | (p + i < text.length() ? text.charAt(p + i) : 0);
            }
            x.sign(v);
            model.sign(v);
        }
        x.end(text.length());
        model.end(text.length());
        log.append("text ").append(text).append('\n');
    }

    private int some(int low, int high) {
        int r = random.nextInt(60);
        if (r == 0) {
            return low - 1;
        }
        if (r == 1) {
            return high + 1;
        }
        if (r == 2 && random.nextInt(4) == 0) {
            return random.nextInt();
        }
        return low + random.nextInt(high - low + 1);
    }

    private int parrot() {
        return some(0, Math.max(0, model.count(0) - 1));
    }

    private String words(int n) {
        StringBuilder s = new StringBuilder();
        int kinds = 1 + random.nextInt(8);
        for (int i = 0; i < n; i++) {
            s.append((char) ('a' + random.nextInt(kinds)));
        }
        return s.toString();
    }

    private String lines(int n) {
        StringBuilder s = new StringBuilder();
        for (int i = 0; i < n; i++) {
            s.append(i > 0 ? ";" : "").append(random.nextInt(4)).append(1 + random.nextInt(8));
        }
        return s.toString();
    }

    private String spoilt(String text, String signs) {
        if (random.nextInt(4) > 0) {
            return text;
        }
        StringBuilder s = new StringBuilder(text);
        int p = random.nextInt(s.length() + 1);
        char c = random.nextInt(10) == 0 ? (char) random.nextInt(256) : signs.charAt(random.nextInt(signs.length()));
        if (random.nextBoolean() || p == s.length()) {
            s.insert(p, c);
        } else if (random.nextBoolean()) {
            s.setCharAt(p, c);
        } else {
            s.setLength(p);
        }
        return s.length() > 80 ? s.substring(0, 80) : s.toString();
    }

    private String thing(int depth) {
        int r = random.nextInt(10);
        if (r < 2 && depth < 5) {
            return "(" + expression(depth + 1) + ")";
        }
        if (r < 4) {
            return Integer.toString(random.nextInt(random.nextBoolean() ? 10 : 1100));
        }
        if (r == 4) {
            return "-" + thing(depth);
        }
        return "" + "nfltwhv".charAt(random.nextInt(7));
    }

    private String expression(int depth) {
        StringBuilder s = new StringBuilder(thing(depth));
        int more = random.nextInt(5);
        for (int i = 0; i < more; i++) {
            s.append("+-*/+-*/<>=".charAt(random.nextInt(11))).append(thing(depth));
        }
        return s.toString();
    }

    private String ruleText() {
        String s = random.nextInt(12) == 0 ? "" : expression(0);
        if (random.nextInt(12) == 0) {
            s = s + "+" + expression(0) + "-" + expression(0) + "*" + expression(0);
        }
        return spoilt(s.length() > 80 ? s.substring(0, 80) : s, "nfltwhv0123456789+-*/<>=()~ ");
    }

    private String trialText() {
        StringBuilder s = new StringBuilder();
        int n = random.nextInt(10) == 0 ? 30 : random.nextInt(8);
        for (int i = 0; i < n; i++) {
            int p = Math.max(0, parrot() % 10);
            switch (random.nextInt(6)) {
                case 0:
                    s.append('d').append(random.nextInt(10));
                    break;
                case 1:
                    s.append('m').append(p).append(random.nextInt(4));
                    break;
                case 2:
                    s.append('k').append(p);
                    break;
                case 3:
                    s.append('t').append(p).append((char) ('a' + random.nextInt(8)));
                    break;
                case 4:
                    s.append('s').append(p);
                    break;
                default:
                    s.append('x');
            }
        }
        return spoilt(s.length() > 80 ? s.substring(0, 80) : s.toString(), "dmktsxabh0123456789;");
    }

    private String taleText() {
        int i = random.nextInt(4);
        int j = random.nextInt(4);
        String a = model.houses[i];
        String b = model.houses[j];
        a = a.substring(0, random.nextInt(a.length() + 1));
        b = b.substring(0, random.nextInt(b.length() + 1));
        StringBuilder s = new StringBuilder();
        while (a.length() + b.length() > 0) {
            boolean first = b.isEmpty() || !a.isEmpty() && random.nextBoolean();
            s.append(first ? a.charAt(0) : b.charAt(0));
            a = first ? a.substring(1) : a;
            b = first ? b : b.substring(1);
        }
        return spoilt(random.nextInt(6) == 0 ? s.toString() : s.substring(0, Math.min(16, s.length())), "abcdefghi");
    }

    private String same(String call, long got, long want) {
        log.append(call).append(" -> ").append(want).append('\n');
        return got == want ? null : call + " answered " + got + ", due is " + want;
    }

    private static long bit(boolean b) {
        return b ? 1 : 0;
    }

    private String step() {
        int r = random.nextInt(100);
        if (r < 30) {
            return actStep();
        }
        return r < 45 ? textStep() : questionStep();
    }

    private String actStep() {
        int p = parrot();
        int h = some(0, 3);
        int w = some(0, 7);
        switch (random.nextInt(13)) {
            case 0:
            case 1:
            case 2:
                int n = random.nextInt(5) == 0 ? some(0, 60) : some(0, 6);
                return same("days(" + n + ")", x.days(n), model.days(n));
            case 3:
                return same("move(" + p + ", " + h + ")", x.move(p, h), model.move(p, h));
            case 4:
                return same("cloth(" + p + ")", x.cloth(p), model.cloth(p));
            case 5:
            case 6:
                return same("teach(" + p + ", " + w + ")", x.teach(p, w), model.teach(p, w));
            case 7:
            case 8:
                return same("speak(" + p + ")", x.speak(p), model.speak(p));
            case 9:
                return same("hush()", x.hush(), model.hush());
            case 10:
                return same("undo()", x.undo(), model.undo());
            case 11:
                int i = some(0, 1);
                return same("keep(" + i + ")", bit(x.keep(i)), bit(model.keep(i)));
            default:
                int j = some(0, 1);
                return random.nextInt(4) > 0 ? null : same("again(" + j + ")", bit(x.again(j)), bit(model.again(j)));
        }
    }

    private String textStep() {
        int h = some(0, 3);
        int i = some(0, 3);
        int w = random.nextInt(8);
        switch (random.nextInt(12)) {
            case 0:
                put(spoilt(words(random.nextInt(18)), "abci"));
                return same("house(" + h + ")", x.house(h), model.house(h));
            case 1:
                put(spoilt(lines(random.nextInt(random.nextInt(4) == 0 ? 8 : 2)), ";0123489"));
                return same("parrots()", x.parrots(), model.parrots());
            case 2:
                put(spoilt(Integer.toString(10000000 + random.nextInt(89999999)), "0123x"));
                return same("worths()", x.worths(), model.worths());
            case 3:
            case 4:
                put(ruleText());
                return same("rule()", x.rule(), model.rule());
            case 5:
            case 6:
                put(ruleText());
                return same("law()", x.law(), model.law());
            case 7:
                put(trialText());
                return same("trial()", x.trial(), model.trial());
            case 8:
                put(taleText());
                return same("blend(" + h + ", " + i + ")", x.blend(h, i), model.blend(h, i));
            case 9:
                put(taleText());
                return same("source()", x.source(), model.source());
            case 10:
                int v = random.nextInt();
                int e = some(0, 4);
                String fault = same("sign(" + v + ")", x.sign(v), model.sign(v));
                return fault != null ? fault : same("end(" + e + ")", bit(x.end(e)), bit(model.end(e)));
            default:
                int kind = some(0, 3);
                int n = some(0, 8);
                int f = random.nextInt(3) == 0 ? random.nextInt() : random.nextInt(12);
                int step = random.nextInt(3) == 0 ? random.nextInt() : random.nextInt(5) - 2;
                return same("sheet(" + kind + ", " + n + ", " + f + ", " + step + ")", x.sheet(kind, n, f, step), model.sheet(kind, n, f, step));
        }
    }

    private String questionStep() {
        int p = parrot();
        int q = parrot();
        int h = some(0, 3);
        int w = some(0, 7);
        int k = some(0, 8);
        switch (random.nextInt(29)) {
            case 0:
                return same("says(" + p + ")", x.says(p), model.says(p));
            case 1:
                return same("place(" + p + ", " + w + ")", x.place(p, w), model.place(p, w));
            case 2:
                return same("soonest(" + w + ")", x.soonest(w), model.soonest(w));
            case 3:
                return same("unsaid()", x.unsaid(), model.unsaid());
            case 4:
                int n = some(0, 60);
                return same("later(" + p + ", " + n + ")", x.later(p, n), model.later(p, n));
            case 5:
                return same("alters(" + p + ")", x.alters(p), model.alters(p));
            case 6:
            case 7:
                return same("crackers(" + p + ", " + w + ")", x.crackers(p, w), model.crackers(p, w));
            case 8:
                return same("stay(" + p + ", " + h + ", " + w + ")", x.stay(p, h, w), model.stay(p, h, w));
            case 9:
                int those = random.nextBoolean() ? some(0, 255) : 1 << random.nextInt(8) | 1 << random.nextInt(8);
                return same("hear(" + those + ", " + k + ")", x.hear(those, k), model.hear(those, k));
            case 10:
                return same("gain(" + p + ", " + k + ")", x.gain(p, k), model.gain(p, k));
            case 11:
                return same("alike(" + p + ", " + q + ")", x.alike(p, q), model.alike(p, q));
            case 12:
                return same("unlike(" + p + ", " + q + ")", x.unlike(p, q), model.unlike(p, q));
            case 13:
            case 14:
            case 15:
                int o = some(0, random.nextBoolean() ? 7 : 4);
                return same("before(" + w + ", " + o + ")", x.before(w, o), model.before(w, o));
            case 16:
                return random.nextInt(3) > 0 ? null : same("forget()", x.forget(), model.forget());
            case 17:
                return same("clash()", x.clash(), model.clash());
            case 18:
                return random.nextInt(4) > 0 ? null : same("drop()", x.drop(), model.drop());
            case 19:
                return same("counsels(" + p + ")", x.counsels(p), model.counsels(p));
            case 20:
                int t = some(0, 10);
                return same("sure(" + p + ", " + t + ", " + k + ")", x.sure(p, t, k), model.sure(p, t, k));
            case 21:
                int what = some(0, 4);
                return same("note(" + what + ", " + w + ")", x.note(what, w), model.note(what, w));
            case 22:
                return same("strike()", x.strike(), model.strike());
            case 23:
                return same("fits()", x.fits(), model.fits());
            case 24:
                return same("ask()", x.ask(), model.ask());
            case 25:
                int v = some(0, 9);
                return same("rests(" + v + ")", x.rests(v), model.rests(v));
            case 26:
                int seed = random.nextInt();
                int times = some(1, 60);
                return same("years(" + seed + ", " + times + ")", x.years(seed, times), model.years(seed, times));
            case 27:
                int day = some(0, 99);
                return same("said(" + h + ", " + day + ")", x.said(h, day), model.said(h, day));
            default:
                return readStep(p, w);
        }
    }

    private String readStep(int p, int w) {
        int what = some(0, 5);
        String fault = sameOrThrows("parrot(" + p + ", " + what + ")", model.parrot(p, what), gotParrot(p, what));
        if (fault == null) {
            fault = sameOrThrows("word(" + p + ", " + w + ", " + what + ")", model.word(p, w, what), gotWord(p, w, what));
        }
        int c = some(0, 14);
        return fault != null ? fault : same("count(" + c + ")", x.count(c), model.count(c));
    }

    private Integer gotParrot(int p, int what) {
        try {
            return x.parrot(p, what);
        } catch (NoSuchElementException e) {
            return null;
        }
    }

    private Integer gotWord(int p, int w, int what) {
        try {
            return x.word(p, w, what);
        } catch (NoSuchElementException e) {
            return null;
        }
    }

    private static String sameOrThrows(String call, Integer want, Integer got) {
        boolean same = want == null ? got == null : want.equals(got);
        return same ? null : call + " answered " + got + ", due is " + want + " (null: it throws)";
    }

    private String compareRow() {
        if (x.count(7) != model.row.size()) {
            return "the ROW has " + x.count(7) + " numbers, due are " + model.row;
        }
        for (int i = 0; i < model.row.size(); i++) {
            if (x.row(i) != model.row.get(i)) {
                return "row(" + i + ") answered " + x.row(i) + ", due is " + model.row;
            }
        }
        return null;
    }

    private String compareAll() {
        for (int what = 0; what < 14; what++) {
            if (x.count(what) != model.count(what)) {
                return "count(" + what + ")\n" + log;
            }
        }
        for (int p = 0; p < model.count(0); p++) {
            for (int w = 0; w < 8; w++) {
                for (int what = 0; what < 5; what++) {
                    if (x.word(p, w, what) != model.word(p, w, what)) {
                        return "word(" + p + ", " + w + ", " + what + ")\n" + log;
                    }
                }
            }
        }
        return null;
    }
}
