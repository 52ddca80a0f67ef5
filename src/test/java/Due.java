import java.util.NoSuchElementException;

/** What the tests have in common: one object, texts put in, answers compared with what is due. */
class Due {
    private static int wrong = 0;

    ParrotsLast x = new ParrotsLast();
    private final String name;
    private String where = "";

    Due(String name) {
        this.name = name;
    }

    /** A new object for the next promise. */
    void promise(int number) {
        anew("promise " + number);
    }

    void anew(String about) {
        x = new ParrotsLast();
        where = about;
    }

    void due(String call, long got, long want) {
        if (got != want) {
            wrong++;
            System.out.println(name + ", " + where + ": " + call + " answered " + got + ", due is " + want);
        }
    }

    void due(String call, boolean got, boolean want) {
        due(call, got ? 1 : 0, want ? 1 : 0);
    }

    /** The ROW is just these numbers. */
    void row(long... want) {
        due("count(7)", x.count(7), want.length);
        for (int i = 0; i < want.length && i < x.count(7); i++) {
            due("row(" + i + ")", x.row(i), want[i]);
        }
    }

    /** THE TEXT is this one. */
    void text(String text) {
        x.end(0);
        for (int p = 0; p < text.length(); p += 4) {
            int v = 0;
            for (int i = 0; i < 4; i++) {
                v = v << 8 | (p + i < text.length() ? text.charAt(p + i) : 0);
            }
            x.sign(v);
        }
        due("end(" + text.length() + ")", x.end(text.length()), true);
    }

    int house(int house, String text) {
        text(text);
        return emptied(x.house(house));
    }

    int parrots(String text) {
        text(text);
        return emptied(x.parrots());
    }

    int worths(String text) {
        text(text);
        return emptied(x.worths());
    }

    int rule(String text) {
        text(text);
        return emptied(x.rule());
    }

    int trial(String text) {
        text(text);
        return emptied(x.trial());
    }

    int blend(int one, int other, String text) {
        text(text);
        return emptied(x.blend(one, other));
    }

    int source(String text) {
        text(text);
        return emptied(x.source());
    }

    int law(String text) {
        text(text);
        return emptied(x.law());
    }

    /** These tellings alone: two letters each, the one before the other. */
    void tell(String pairs) {
        x.forget();
        for (int i = 0; i + 1 < pairs.length(); i += 3) {
            x.before(pairs.charAt(i) - 'a', pairs.charAt(i + 1) - 'a');
        }
    }

    private int emptied(int answer) {
        due("count(8) behind a call that reads THE TEXT", x.count(8), 0);
        return answer;
    }

    boolean parrotThrows(int parrot, int what) {
        try {
            x.parrot(parrot, what);
            return false;
        } catch (NoSuchElementException e) {
            return true;
        }
    }

    boolean wordThrows(int parrot, int word, int what) {
        try {
            x.word(parrot, word, what);
            return false;
        } catch (NoSuchElementException e) {
            return true;
        }
    }

    boolean rowThrows(int i) {
        try {
            x.row(i);
            return false;
        } catch (NoSuchElementException e) {
            return true;
        }
    }

    static String repeat(String s, int n) {
        return s.repeat(n);
    }

    void finish() {
        System.out.println(name + ": " + (wrong == 0 ? "all answers are as due" : wrong + " answers are not as due"));
        if (wrong != 0) {
            System.exit(1);
        }
    }
}
