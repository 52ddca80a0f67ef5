/** Promises 12 to 19: days, trials. */
public final class DaysTest extends Due {
    private DaysTest() {
        super("DaysTest");
    }

    public static void main(String[] args) {
        DaysTest t = new DaysTest();
        t.days();
        t.hearNoMore();
        t.move();
        t.cloth();
        t.teach();
        t.speak();
        t.hush();
        t.trial();
        t.trialSigns();
        t.trialLength();
        t.undo();
        t.undoOfAll();
        t.undoForgotten();
        t.finish();
    }

    private void days() {
        promise(12);
        due("days(2) without parrots", x.days(2), 2);
        row();
        house(0, "abcd");
        house(1, "ef");
        parrots("08;12;01");
        x.cloth(2);
        due("days(3)", x.days(3), 5);
        row(3, 2, 0);
        due("the first word that 0 heard", x.word(0, 2, 1), 0);
        due("days(1)", x.days(1), 6);
        row(1, 0, 0);
        due("days(0)", x.days(0), 6);
        row(0, 0, 0);
        x.says(0);
        due("days(61)", x.days(61), -1);
        due("days(-1)", x.days(-1), -1);
        row(2, 3, 0, 1);
        due("days(60)", x.days(60), 66);
        row(0, 0, 0);
        due("heard by 0", x.parrot(0, 3), 64);
        due("heard by 2", x.parrot(2, 3), 0);
    }

    private void hearNoMore() {
        promise(12);
        parrots("08;08;18");
        house(1, "b");
        x.cloth(1);
        for (int i = 0; i < 166; i++) {
            x.days(60);
        }
        x.days(38);
        due("heard", x.parrot(0, 3), 9998);
        x.move(0, 1);
        x.days(2);
        due("heard", x.parrot(0, 3), 9999);
        due("b heard", x.word(0, 1, 0), 1);
        due("b first", x.word(0, 1, 1), 9998);
        due("count(1)", x.count(1), 10000);
        x.move(0, 2);
        house(2, "c");
        x.days(1);
        row(0, 0, 0);
        due("later(0, 60)", x.later(0, 60), 2);
        due("stay(0, 2, 2)", x.stay(0, 2, 2), -2);
        x.cloth(1);
        x.move(1, 1);
        due("1 has no more", x.speak(1), -3);
        x.days(1);
        x.move(0, 1);
        due("1 says b", x.speak(1), 1);
        due("2 hears nothing", x.word(2, 1, 0), 9999);
        due("0 hears nothing", x.word(0, 1, 0), 1);
    }

    private void move() {
        promise(13);
        parrots("28;08");
        due("move(0, 3)", x.move(0, 3), 2);
        due("house", x.parrot(0, 0), 3);
        due("move(0, 3)", x.move(0, 3), -2);
        due("move(0, 0)", x.move(0, 0), 3);
        due("move(0, 4)", x.move(0, 4), -1);
        due("move(0, -1)", x.move(0, -1), -1);
        due("move(2, 0)", x.move(2, 0), -1);
        due("move(-1, 0)", x.move(-1, 0), -1);
        due("house", x.parrot(0, 0), 0);
        due("house of the other", x.parrot(1, 0), 0);
        due("what can be undone", x.count(6), 2);
    }

    private void cloth() {
        promise(14);
        parrots("08;08;08");
        due("cloth(1)", x.cloth(1), 1);
        due("cloth(2)", x.cloth(2), 2);
        due("count(2)", x.count(2), 6);
        x.days(2);
        due("heard under it", x.parrot(1, 3), 0);
        due("heard without", x.parrot(0, 3), 2);
        due("cloth(1)", x.cloth(1), 1);
        due("cloth(0)", x.cloth(0), 2);
        due("cloth(0)", x.cloth(0), 1);
        due("cloth(3)", x.cloth(3), -1);
        due("cloth(-1)", x.cloth(-1), -1);
        x.days(1);
        due("heard", x.parrot(1, 3), 1);
        due("moved under it", x.move(2, 1), 0);
    }

    private void teach() {
        promise(15);
        house(0, "ab");
        parrots("08;08");
        due("teach(0, 0)", x.teach(0, 0), -2);
        x.days(2);
        due("teach(0, 0)", x.teach(0, 0), 1);
        due("teach(0, 2)", x.teach(0, 2), -2);
        due("teach(0, 8)", x.teach(0, 8), -1);
        due("teach(0, -1)", x.teach(0, -1), -1);
        due("teach(2, 0)", x.teach(2, 0), -1);
        due("teach(-1, 0)", x.teach(-1, 0), -1);
        for (int n = 2; n <= 99; n++) {
            due("teach(0, 0)", x.teach(0, 0), n);
        }
        due("teach(0, 0)", x.teach(0, 0), 99);
        due("word(0, 0, 3)", x.word(0, 0, 3), 99);
        due("word(0, 1, 3)", x.word(0, 1, 3), 0);
        due("word(1, 0, 3)", x.word(1, 0, 3), 0);
    }

    private void speak() {
        promise(16);
        house(0, "aabc");
        house(1, "d");
        parrots("02;08;08;18");
        due("nothing to say", x.speak(0), -3);
        x.days(4);
        x.cloth(2);
        due("speak(0)", x.speak(0), 0);
        due("out", x.parrot(0, 5), 1);
        due("1 hears it", x.word(1, 0, 0), 3);
        due("1 heard it last", x.word(1, 0, 2), 4);
        due("2 hears nothing", x.parrot(2, 3), 4);
        due("3 is elsewhere", x.parrot(3, 3), 4);
        due("0 does not hear itself", x.parrot(0, 3), 4);
        x.teach(0, 1);
        x.teach(0, 1);
        due("by what it would say now", x.speak(0), 0);
        due("no more than its memory", x.speak(0), -3);
        due("out", x.parrot(0, 5), 2);
        due("speak(1)", x.speak(1), 0);
        due("0 hears it", x.word(0, 0, 2), 4);
        due("under a cloth", x.speak(2), -2);
        due("speak(4)", x.speak(4), -1);
        due("speak(-1)", x.speak(-1), -1);
        due("the ROW stays", x.count(7), 4);
        x.cloth(3);
        due("under a cloth first", x.speak(3), -2);
    }

    private void hush() {
        promise(17);
        due("without parrots", x.hush(), 0);
        parrots("08;08;18");
        x.days(1);
        x.speak(0);
        x.speak(2);
        due("count(3)", x.count(3), 5);
        due("hush()", x.hush(), 2);
        due("count(3)", x.count(3), 0);
        due("hush()", x.hush(), 0);
        due("speak(0)", x.speak(0), 0);
        due("speak(0)", x.speak(0), -3);
    }

    private void trial() {
        promise(18);
        house(0, "ab");
        parrots("08;08");
        due("all acts", trial("d2m13k1t0bs0x"), 6);
        row(0, 2);
        due("house of 1", x.parrot(1, 0), 3);
        due("cloth of 1", x.parrot(1, 2), 1);
        due("taught", x.word(0, 1, 3), 1);
        due("out", x.parrot(0, 5), 0);
        due("what can be undone", x.count(6), 1);
        due("till one can't be", trial("d1d1s0t0cd9"), 3);
        row(1, 4);
        due("count(1)", x.count(1), 4);
        due("no day", trial("d0"), 1);
        row(0, 4);
        due("none", trial(""), 0);
        row(0, 4);
        due("s9", trial("s9"), 0);
        row(1, 4);
        due("m04", trial("d1m04"), 1);
        row(1, 5);
        due("m03m03", trial("m03m03"), 1);
        row(1, 5);
        due("k2", trial("k2"), 0);
        due("s1 under a cloth", trial("xxs1"), 2);
        row(1, 5);
    }

    private void trialSigns() {
        promise(18);
        parrots("08");
        x.unsaid();
        due("q", trial("d1q"), -3);
        due("d", trial("d"), -2);
        due("da", trial("da"), -2);
        due("m", trial("m"), -2);
        due("m0", trial("m0"), -3);
        due("m0a", trial("m0a"), -3);
        due("k", trial("k"), -2);
        due("t", trial("t"), -2);
        due("t0", trial("t0"), -3);
        due("t00", trial("t00"), -3);
        due("t0i", trial("t0i"), -3);
        due("ta", trial("ta"), -2);
        due("s", trial("s"), -2);
        due("x0", trial("x0"), -2);
        due("d10", trial("d10"), -3);
        due("0", trial("0"), -1);
        due("d9d9d9;", trial("d9d9d9;"), -7);
        row(255);
        due("nothing is done", x.count(1), 0);
        due("nothing can be undone", x.count(6), 0);
    }

    private void trialLength() {
        promise(18);
        parrots("08");
        due("60 signs", trial(repeat("d1", 30)), 30);
        row(0, 30);
        due("61 signs", trial(repeat("d1", 30) + "x"), -61);
        due("61 signs, the last no sign", trial(repeat("d1", 30) + "?"), -61);
        due("60 signs that end too early", trial(repeat("d1", 29) + "xd"), -61);
        due("62 signs, the first 60 could go on", trial(repeat("d1", 29) + "xd11"), -61);
        due("62 signs, bad at the sixtieth", trial(repeat("d1", 29) + "xzxx"), -60);
        due("count(1)", x.count(1), 30);
    }

    private void undo() {
        promise(19);
        house(0, "ab");
        parrots("08;08");
        x.days(2);
        x.move(1, 2);
        x.cloth(1);
        x.teach(0, 1);
        x.speak(0);
        x.hush();
        due("count(6)", x.count(6), 6);
        due("undo() of hush()", x.undo(), 5);
        due("out", x.parrot(0, 5), 1);
        due("undo() of speak()", x.undo(), 4);
        due("out", x.parrot(0, 5), 0);
        due("taught", x.word(0, 1, 3), 1);
        due("undo() of teach()", x.undo(), 3);
        due("taught", x.word(0, 1, 3), 0);
        due("cloth", x.parrot(1, 2), 1);
        due("undo() of cloth()", x.undo(), 2);
        due("cloth", x.parrot(1, 2), 0);
        due("house", x.parrot(1, 0), 2);
        due("undo() of move()", x.undo(), 1);
        due("house", x.parrot(1, 0), 0);
        due("heard", x.parrot(0, 3), 2);
        due("heard last", x.word(0, 1, 2), 1);
        due("undo() of days()", x.undo(), 0);
        due("day", x.count(1), 0);
        due("heard", x.parrot(0, 3), 0);
        due("word", x.word(0, 0, 1), -1);
        due("undo() of none", x.undo(), -1);
        x.days(2);
        x.days(2);
        due("undo() of the latter", x.undo(), 1);
        due("heard last", x.word(0, 1, 2), 1);
        x.undo();
        due("what was heard by others", trial("d2s0"), 2);
        due("heard", x.parrot(1, 3), 3);
        due("undo() of trial()", x.undo(), 0);
        due("heard", x.parrot(1, 3), 0);
    }

    private void undoOfAll() {
        promise(19);
        parrots("08");
        for (int i = 0; i < 14; i++) {
            x.days(1);
        }
        due("count(6)", x.count(6), 12);
        for (int left = 11; left >= 0; left--) {
            due("undo()", x.undo(), left);
            due("day", x.count(1), left + 2);
        }
        due("undo()", x.undo(), -1);
        due("day", x.count(1), 2);
        x.days(0);
        x.hush();
        x.move(0, 0);
        x.teach(0, 5);
        x.cloth(3);
        x.days(61);
        trial("");
        trial("m00");
        trial("?");
        x.years(5, 60);
        due("nothing was done", x.count(6), 0);
        trial("x");
        due("one act was done", x.count(6), 1);
        trial("d0m00");
        due("one act was done", x.count(6), 2);
    }

    private void undoForgotten() {
        promise(19);
        parrots("08");
        x.days(2);
        parrots("");
        due("an empty parrots()", x.count(6), 1);
        parrots("?");
        due("a refused parrots()", x.count(6), 1);
        x.again(0);
        due("a refused again()", x.count(6), 1);
        x.keep(0);
        due("keep()", x.count(6), 1);
        house(0, "b");
        rule("n");
        worths("00000000");
        due("houses, rules, worths", x.count(6), 1);
        x.again(0);
        due("again()", x.count(6), 0);
        x.days(1);
        parrots("01");
        due("parrots()", x.count(6), 0);
        due("undo()", x.undo(), -1);
        due("day", x.count(1), 3);
        x.days(1);
        house(0, "c");
        x.undo();
        due("a house is not undone", x.said(0, 0), 2);
        due("what was heard is", x.word(0, 1, 0), 1);
    }
}
