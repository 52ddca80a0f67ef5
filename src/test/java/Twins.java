import java.util.NoSuchElementException;

/** Two objects with the same calls behind them: one gets a call more, and must be as the other still. */
final class Twins {
    private static final long THROWS = -999999;

    private interface Call {
        long on(ParrotsLast x);
    }

    private final Due t;

    Twins(Due t) {
        this.t = t;
    }

    /** Something of everything: parrot 0 has no more to say, parrot 1 is under a cloth; a text is left. */
    private ParrotsLast busy(String text) {
        t.x = new ParrotsLast();
        t.house(0, "abc");
        t.house(1, "cab");
        t.parrots("01;18");
        t.worths("12345678");
        t.rule("n*3-f+t*5+v");
        t.x.keep(0);
        t.x.days(3);
        t.x.keep(1);
        t.x.before(0, 1);
        t.x.before(1, 0);
        t.x.note(2, 0);
        t.x.move(1, 0);
        t.x.teach(0, 0);
        t.x.speak(0);
        t.x.cloth(1);
        t.x.unsaid();
        t.text(text);
        return t.x;
    }

    private static long answer(ParrotsLast x, Call call) {
        try {
            return call.on(x);
        } catch (NoSuchElementException e) {
            return THROWS;
        }
    }

    private static String told(ParrotsLast x) {
        StringBuilder s = new StringBuilder("row");
        for (int i = 0; i < x.count(7); i++) {
            s.append(' ').append(x.row(i));
        }
        return s.append('\n').toString();
    }

    private static String scene(ParrotsLast x) {
        StringBuilder s = new StringBuilder("day " + x.count(1) + ", undone " + x.count(6));
        for (int p = 0; p < x.count(0); p++) {
            for (int what = 0; what < 6; what++) {
                s.append(what == 0 ? "; " : " ").append(x.parrot(p, what));
            }
            for (int w = 0; w < 3; w++) {
                for (int what = 0; what < 5; what++) {
                    s.append(what == 0 ? ", " : " ").append(x.word(p, w, what));
                }
            }
        }
        return s.append('\n').toString();
    }

    /** All that can be asked; it is spent by that. */
    private static String portrait(ParrotsLast x, boolean withRow) {
        StringBuilder s = new StringBuilder(withRow ? told(x) : "");
        for (int what = 0; what < 14; what++) {
            s.append(what == 7 ? "" : " " + x.count(what));
        }
        for (int i = 0; i < 12; i++) {
            s.append(' ').append(x.said(i / 3, i % 3));
        }
        s.append('\n').append(scene(x));
        s.append("clash ").append(x.clash()).append(told(x));
        s.append("fits ").append(x.fits()).append(told(x));
        s.append("text ").append(x.house(3)).append(' ').append(x.said(3, 0)).append('\n');
        for (int i = 0; i < 12 && x.undo() >= 0; i++) {
            s.append(scene(x));
        }
        for (int i = 0; i < 2; i++) {
            s.append(x.again(i)).append(' ').append(scene(x));
        }
        return s.toString();
    }

    private void same(String call, String text, boolean reads, Call added, boolean withRow) {
        ParrotsLast asked = busy(text);
        answer(asked, added);
        ParrotsLast other = busy(text);
        if (reads) {
            other.end(0);
        }
        String want = portrait(other, withRow);
        String got = portrait(asked, withRow);
        t.due(call + " changes nothing; it is\n" + got + "and was\n" + want, got.equals(want), true);
    }

    private void refused(String call, long want, Call added) {
        t.due(call, answer(busy("ba"), added), want);
        same(call, "ba", false, added, true);
    }

    private void refusedText(String call, String text, long want, Call added) {
        t.due(call + " of " + text, answer(busy(text), added), want);
        same(call + " of " + text, text, true, added, true);
    }

    private void question(String call, Call added) {
        same(call, "ba", false, added, false);
    }

    void refused() {
        refusedTexts();
        refusedActs();
        refusedQuestions();
        String text = "a".repeat(77);
        same("sign(0) of 81", text, false, x -> x.sign(0), true);
        refused("end(3)", 0, x -> x.end(3) ? 1 : 0);
        refused("end(-1)", 0, x -> x.end(-1) ? 1 : 0);
        refused("keep(2)", 0, x -> x.keep(2) ? 1 : 0);
        refused("keep(-1)", 0, x -> x.keep(-1) ? 1 : 0);
        refused("again(2)", 0, x -> x.again(2) ? 1 : 0);
        refused("again(-1)", 0, x -> x.again(-1) ? 1 : 0);
        refused("count(9)", -100, x -> x.count(9));
        refused("row(1)", THROWS, x -> x.row(1));
        refused("row(-1)", THROWS, x -> x.row(-1));
    }

    private void refusedTexts() {
        refusedText("house(4)", "ab", -100, x -> x.house(4));
        refusedText("house(0)", "", -1, x -> x.house(0));
        refusedText("house(0)", "abi", -3, x -> x.house(0));
        refusedText("house(0)", "a".repeat(17), -17, x -> x.house(0));
        refusedText("parrots()", "01;09", -5, x -> x.parrots());
        refusedText("parrots()", "01;01;01;01;01", -13, x -> x.parrots());
        refusedText("worths()", "", -1, x -> x.worths());
        refusedText("worths()", "0000000", -8, x -> x.worths());
        refusedText("worths()", "000000000", -9, x -> x.worths());
        refusedText("rule()", "n+", -3, x -> x.rule());
        refusedText("rule()", "n" + "+n".repeat(20), -41, x -> x.rule());
        refusedText("trial()", "d1s", -4, x -> x.trial());
        refusedText("trial()", "d1k0q", -5, x -> x.trial());
        refusedText("trial()", "x".repeat(61), -61, x -> x.trial());
        refusedText("blend(0, 0)", "ab", -100, x -> x.blend(0, 0));
        refusedText("blend(0, 1)", "abi", -3, x -> x.blend(0, 1));
        refusedText("source()", "i", -1, x -> x.source());
        refusedText("source()", "hh", -200, x -> x.source());
        refusedText("law()", "n+", -10002, x -> x.law());
    }

    private void refusedActs() {
        refused("parrot(2, 0)", THROWS, x -> x.parrot(2, 0));
        refused("parrot(0, 6)", THROWS, x -> x.parrot(0, 6));
        refused("word(2, 0, 0)", THROWS, x -> x.word(2, 0, 0));
        refused("word(0, 8, 0)", THROWS, x -> x.word(0, 8, 0));
        refused("word(0, 0, 5)", THROWS, x -> x.word(0, 0, 5));
        refused("said(4, 0)", -1, x -> x.said(4, 0));
        refused("sheet(4, 1, 1, 1)", -1, x -> x.sheet(4, 1, 1, 1));
        refused("sheet(0, 9, 1, 1)", -1, x -> x.sheet(0, 9, 1, 1));
        refused("sheet(3, 9, 1, 1)", -1, x -> x.sheet(3, 9, 1, 1));
        refused("sheet(0, -1, 1, 1)", -2, x -> x.sheet(0, -1, 1, 1));
        refused("days(61)", -1, x -> x.days(61));
        refused("days(-1)", -1, x -> x.days(-1));
        refused("move(0, 0)", -2, x -> x.move(0, 0));
        refused("move(0, 4)", -1, x -> x.move(0, 4));
        refused("move(2, 0)", -1, x -> x.move(2, 0));
        refused("cloth(2)", -1, x -> x.cloth(2));
        refused("teach(0, 7)", -2, x -> x.teach(0, 7));
        refused("teach(0, 8)", -1, x -> x.teach(0, 8));
        refused("teach(2, 0)", -1, x -> x.teach(2, 0));
        refused("speak(0)", -3, x -> x.speak(0));
        refused("speak(1)", -2, x -> x.speak(1));
        refused("speak(2)", -1, x -> x.speak(2));
        refused("before(0, 0)", -1, x -> x.before(0, 0));
        refused("before(0, 8)", -1, x -> x.before(0, 8));
        refused("note(5, 0)", -1, x -> x.note(5, 0));
        refused("note(3, 0)", -1, x -> x.note(3, 0));
    }

    private void refusedQuestions() {
        refused("says(2)", -1, x -> x.says(2));
        refused("place(2, 0)", -1, x -> x.place(2, 0));
        refused("place(0, 7)", -2, x -> x.place(0, 7));
        refused("soonest(8)", -1, x -> x.soonest(8));
        refused("soonest(7)", -2, x -> x.soonest(7));
        refused("later(2, 0)", -1, x -> x.later(2, 0));
        refused("later(0, 61)", -1, x -> x.later(0, 61));
        refused("alters(2)", -1, x -> x.alters(2));
        refused("alters(1)", -2, x -> x.alters(1));
        refused("crackers(2, 0)", -1, x -> x.crackers(2, 0));
        refused("crackers(0, 7)", -2, x -> x.crackers(0, 7));
        refused("stay(0, 4, 0)", -1, x -> x.stay(0, 4, 0));
        refused("stay(0, 0, 7)", -2, x -> x.stay(0, 0, 7));
        refused("hear(256, 1)", -1, x -> x.hear(256, 1));
        refused("hear(128, 8)", -2, x -> x.hear(128, 8));
        refused("gain(2, 0)", -1, x -> x.gain(2, 0));
        refused("gain(0, 9)", -1, x -> x.gain(0, 9));
        refused("alike(0, 0)", -1, x -> x.alike(0, 0));
        refused("unlike(0, 2)", -1, x -> x.unlike(0, 2));
        refused("counsels(2)", -1, x -> x.counsels(2));
        refused("sure(0, 11, 0)", -1, x -> x.sure(0, 11, 0));
        refused("sure(0, 0, 9)", -1, x -> x.sure(0, 0, 9));
        refused("rests(10)", -1, x -> x.rests(10));
        refused("years(1, 0)", -1, x -> x.years(1, 0));
        refused("years(1, 61)", -1, x -> x.years(1, 61));
    }

    void questions() {
        question("parrot(1, 4)", x -> x.parrot(1, 4));
        question("word(0, 0, 4)", x -> x.word(0, 0, 4));
        question("said(0, 99)", x -> x.said(0, 99));
        question("says(0)", x -> x.says(0));
        question("place(0, 0)", x -> x.place(0, 0));
        question("soonest(0)", x -> x.soonest(0));
        question("unsaid()", x -> x.unsaid());
        question("later(0, 60)", x -> x.later(0, 60));
        question("alters(0)", x -> x.alters(0));
        question("crackers(0, 2)", x -> x.crackers(0, 2));
        question("stay(1, 3, 0)", x -> x.stay(1, 3, 0));
        question("hear(7, 8)", x -> x.hear(7, 8));
        question("gain(1, 8)", x -> x.gain(1, 8));
        question("alike(0, 1)", x -> x.alike(0, 1));
        question("unlike(0, 1)", x -> x.unlike(0, 1));
        question("clash()", x -> x.clash());
        question("drop()", x -> x.drop());
        question("counsels(1)", x -> x.counsels(1));
        question("sure(1, 3, 2)", x -> x.sure(1, 3, 2));
        question("fits()", x -> x.fits());
        question("ask()", x -> x.ask());
        question("rests(3)", x -> x.rests(3));
        question("years(7, 60)", x -> x.years(7, 60));
        question("count(6)", x -> x.count(6));
        question("row(0)", x -> x.row(0));
        same("blend(0, 1)", "abc", true, x -> x.blend(0, 1), false);
        same("source()", "abc", true, x -> x.source(), false);
        same("law()", "-w*9", true, x -> x.law(), false);
        same("days(0)", "ba", false, x -> x.days(0), false);
        same("an empty trial()", "", true, x -> x.trial(), false);
        same("an empty parrots()", "", true, x -> x.parrots(), true);
    }

    private void stays(String call, String text, Call added) {
        ParrotsLast x = busy(text);
        String ahead = told(x);
        answer(x, added);
        t.due("the ROW behind " + call + ", " + told(x) + "ahead of it, " + ahead, told(x).equals(ahead), true);
    }

    void rowStays() {
        stays("sign()", "", x -> x.sign(0));
        stays("end()", "ab", x -> x.end(1) ? 1 : 0);
        stays("house()", "ab", x -> x.house(0));
        stays("parrots()", "01", x -> x.parrots());
        stays("worths()", "99999999", x -> x.worths());
        stays("rule()", "n", x -> x.rule());
        stays("parrot()", "", x -> x.parrot(0, 0));
        stays("word()", "", x -> x.word(0, 0, 0));
        stays("said()", "", x -> x.said(0, 0));
        stays("sheet()", "", x -> x.sheet(0, 8, 1, 0));
        stays("a missing sheet()", "", x -> x.sheet(3, 0, 0, 0));
        stays("move()", "", x -> x.move(0, 3));
        stays("cloth()", "", x -> x.cloth(0));
        stays("teach()", "", x -> x.teach(0, 0));
        stays("speak()", "", x -> x.hush() + x.speak(0));
        stays("hush()", "", x -> x.hush());
        stays("undo()", "", x -> x.undo());
        stays("place()", "", x -> x.place(0, 0));
        stays("crackers()", "", x -> x.crackers(0, 0));
        stays("stay()", "", x -> x.stay(0, 0, 0));
        stays("a blend() that can't be", "h", x -> x.blend(0, 1));
        stays("before()", "", x -> x.before(0, 2));
        stays("forget()", "", x -> x.forget());
        stays("note()", "", x -> x.note(0, 0));
        stays("strike()", "", x -> x.strike());
        stays("keep()", "", x -> x.keep(0) ? 1 : 0);
        stays("again()", "", x -> x.again(0) ? 1 : 0);
        stays("count()", "", x -> x.count(0));
        stays("row()", "", x -> x.row(0));
    }
}
