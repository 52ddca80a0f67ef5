/** Edges of promises 12 to 19: days, trials. */
public final class DaysEdgesTest extends Edges {
    private DaysEdgesTest() {
        super("DaysEdgesTest", 12, 19);
    }

    public static void main(String[] args) {
        DaysEdgesTest t = new DaysEdgesTest();
        t.days();
        t.move();
        t.cloth();
        t.teach();
        t.speak();
        t.speakRefused();
        t.hush();
        t.trialActs();
        t.trialStops();
        t.trialSigns();
        t.undoCalls();
        t.undoState();
        t.undoForgotten();
        t.finish();
    }

    private void days() {
        sentence(12, "n DAYS (0 .. 60): DAY");
        parrots("08");
        due("none", x.days(0), 0);
        due("heard", x.parrot(0, 3), 0);
        due("one", x.days(1), 1);
        due("60", x.days(60), 61);
        due("heard", x.parrot(0, 3), 61);

        sentence(12, "the ROW: by parrots how many WORDS they know that they did not know ahead");
        due("without parrots", x.days(1), 1);
        row();
        house(0, "abcdefgh");
        house(1, "a");
        parrots("08;01;18;08;08;08");
        x.cloth(5);
        x.days(0);
        row(0, 0, 0, 0, 0, 0);
        x.days(7);
        row(7, 7, 1, 7, 7, 0);
        x.days(60);
        row(1, 1, 0, 1, 1, 0);
        x.days(60);
        row(0, 0, 0, 0, 0, 0);

        sentence(12, "Refused: another n.");
        parrots("08");
        x.days(2);
        for (int n : outside(60)) {
            due("days(" + n + ")", x.days(n), -1);
        }
        row(1);
        due("the day", x.count(1), 2);
        due("heard", x.parrot(0, 3), 2);
        due("what can be undone", x.count(6), 1);
    }

    private void move() {
        sentence(13, "A parrot comes to a HOUSE: the one where it was.");
        parrots("01;31;08;08;08;28");
        due("to the last house", x.move(0, 3), 0);
        due("to the first one", x.move(1, 0), 3);
        due("the last parrot", x.move(5, 1), 2);
        due("house", x.parrot(0, 0), 3);
        due("house", x.parrot(1, 0), 0);
        due("house", x.parrot(5, 0), 1);
        due("the others stay", x.parrot(2, 0), 0);

        sentence(13, "-2: it is there");
        parrots("01;31");
        due("the first house", x.move(0, 0), -2);
        due("the last house", x.move(1, 3), -2);
        due("what can be undone", x.count(6), 0);

        sentence(13, "NONE: none such.");
        due("without parrots", x.move(0, 1), -1);
        parrots("01;31");
        for (int p : outside(1)) {
            due("move(" + p + ", 1)", x.move(p, 1), -1);
        }
        for (int h : outside(3)) {
            due("move(0, " + h + ")", x.move(0, h), -1);
        }
        due("house", x.parrot(0, 0), 0);
        due("what can be undone", x.count(6), 0);
    }

    private void cloth() {
        sentence(14, "A CLOTH is put over a parrot, or taken off: how many are under one then.");
        parrots("01;01;01;01;01;01");
        for (int p = 0; p < 6; p++) {
            due("put over " + p, x.cloth(p), p + 1);
        }
        due("all", x.count(2), 63);
        x.days(1);
        row(0, 0, 0, 0, 0, 0);
        for (int p = 0; p < 6; p++) {
            due("taken off " + p, x.cloth(p), 5 - p);
        }
        due("none", x.count(2), 0);

        sentence(14, "NONE: none such.");
        due("without parrots", x.cloth(0), -1);
        parrots("01;01");
        for (int p : outside(1)) {
            due("cloth(" + p + ")", x.cloth(p), -1);
        }
        due("count(2)", x.count(2), 0);
        due("what can be undone", x.count(6), 0);
    }

    private void teach() {
        sentence(15, "A parrot is TAUGHT a WORD by a cracker (99 at most): how often it was.");
        house(0, "h");
        parrots("08");
        x.days(1);
        due("under a cloth too", x.cloth(0), 1);
        for (int n = 1; n <= 99; n++) {
            due("once more", x.teach(0, 7), n);
        }
        due("99 at most", x.teach(0, 7), 99);
        due("99 at most", x.teach(0, 7), 99);
        due("taught", x.word(0, 7, 3), 99);
        due("nothing is heard by it", x.parrot(0, 3), 1);

        sentence(15, "-2: it never heard it");
        parrots("01");
        due("a", x.teach(0, 0), -2);
        x.days(1);
        due("a", x.teach(0, 0), 1);
        due("h", x.teach(0, 7), -2);
        x.undo();
        x.undo();
        due("a, its hearing undone", x.teach(0, 0), -2);

        sentence(15, "NONE: none such.");
        due("without parrots", x.teach(0, 0), -1);
        parrots("08;08");
        x.days(1);
        for (int p : outside(1)) {
            due("teach(" + p + ", 0)", x.teach(p, 0), -1);
            due("teach(" + p + ", 7), never heard", x.teach(p, 7), -1);
        }
        for (int w : outside(7)) {
            due("teach(0, " + w + ")", x.teach(0, w), -1);
        }
        due("what can be undone", x.count(6), 1);
    }

    private void speak() {
        sentence(16, "A parrot says the next one of WHAT IT SAYS (that at the place OUT, by what it would say now) aloud: the WORD");
        house(0, "abc");
        parrots("08");
        x.days(3);
        due("the first", x.speak(0), 0);
        rule("-w");
        due("the second, by another rule", x.speak(0), 1);
        rule("w");
        due("the third, by another rule", x.speak(0), 0);

        sentence(16, "OUT is 1 more");
        hearAll();
        for (int n = 0; n < 8; n++) {
            due("word " + n, x.speak(0), n);
            due("out", x.parrot(0, 5), n + 1);
        }
        due("no ninth", x.speak(0), -3);
        due("out", x.parrot(0, 5), 8);

        sentence(16, "all other parrots without a CLOTH in its HOUSE HEAR it");
        house(0, "h");
        parrots("08;08;08;18;08;08");
        x.days(1);
        x.cloth(2);
        x.move(4, 3);
        due("the last one speaks", x.speak(5), 7);
        int[] heard = {2, 2, 1, 1, 1, 1};
        for (int p = 0; p < 6; p++) {
            due("heard by " + p, x.parrot(p, 3), heard[p]);
        }
        due("it is heard as 1", x.word(0, 7, 2), 1);
        due("the day stays", x.count(1), 1);
    }

    private void speakRefused() {
        sentence(16, "-2: it is under a CLOTH");
        parrots("08;08");
        x.days(1);
        x.cloth(0);
        due("it had something to say", x.speak(0), -2);
        due("the other hears nothing", x.parrot(1, 3), 1);
        x.cloth(0);
        due("without it", x.speak(0), 0);
        x.cloth(0);
        due("it had no more to say", x.speak(0), -2);

        sentence(16, "-3: it has no more to say");
        house(0, "abcdefgh");
        parrots("01;07");
        due("nothing heard", x.speak(0), -3);
        x.days(8);
        due("its one word", x.speak(0), 0);
        due("a memory of 1", x.speak(0), -3);
        for (int i = 0; i < 7; i++) {
            x.speak(1);
        }
        due("a memory of 7", x.speak(1), -3);
        due("out", x.parrot(1, 5), 7);
        due("heard by 0", x.parrot(0, 3), 8 + 7);

        sentence(16, "NONE: none such.");
        due("without parrots", x.speak(0), -1);
        parrots("08;08");
        x.days(1);
        for (int p : outside(1)) {
            due("speak(" + p + ")", x.speak(p), -1);
        }
        due("what can be undone", x.count(6), 1);
    }

    private void hush() {
        sentence(17, "OUT of all parrots is 0: how many had said something.");
        due("without parrots", x.hush(), 0);
        house(0, "ab");
        parrots("08;08;08;08;08;08");
        x.days(2);
        due("none", x.hush(), 0);
        for (int p = 0; p < 6; p++) {
            x.speak(p);
            x.speak(p);
        }
        x.cloth(3);
        due("all, one under a cloth", x.hush(), 6);
        for (int p = 0; p < 6; p++) {
            due("out of " + p, x.parrot(p, 5), 0);
        }
        due("none again", x.hush(), 0);
        due("the first word again", x.speak(0), 0);
        due("one", x.hush(), 1);
    }

    private void trialActs() {
        sentence(18, "THE TEXT tells A TRIAL (an empty one: nothing)");
        x.unsaid();
        due("empty, without parrots", trial(""), 0);
        row(0, 0);
        x.days(5);
        due("empty, on day 5", trial(""), 0);
        row(0, 5);
        due("what can be undone", x.count(6), 1);

        sentence(18, "ACTS one behind another, without signs between: d and a digit (days()), m and two digits (move()), "
                + "k and a digit (cloth()), t, a digit and a letter a .. h (teach()), s and a digit (speak()), x (hush())");
        house(0, "ha");
        parrots("08;08;08;08;08;08");
        due("no day", trial("d0"), 1);
        row(0, 0);
        due("nine days", trial("d9"), 1);
        row(0, 9);
        due("move", trial("m53"), 1);
        due("house", x.parrot(5, 0), 3);
        due("cloth", trial("k5"), 1);
        due("cloths", x.count(2), 32);
        due("teach", trial("t0at0h"), 2);
        due("a", x.word(0, 0, 3), 1);
        due("h", x.word(0, 7, 3), 1);
        due("speak", trial("s0"), 1);
        due("out", x.parrot(0, 5), 1);
        due("heard by 1", x.parrot(1, 3), 10);
        due("hush", trial("x"), 1);
        due("out", x.parrot(0, 5), 0);
        due("hush of none", trial("xx"), 2);
        row(0, 9);
        due("all", trial("d1m50k5t0as0x"), 6);
        row(0, 10);
    }

    private void trialStops() {
        sentence(18, "they are done one by one, till one can't be (it answers below 0): how many were done");
        String[] bad = {"m00", "m04", "m09", "m20", "m90", "k2", "k9", "t0b", "t2a", "t9h", "s2", "s9"};
        for (String act : bad) {
            x = new ParrotsLast();
            parrots("01;18");
            x.days(1);
            due(act + " alone", trial(act), 0);
            row(1, 1);
            due("what can be undone", x.count(6), 1);
            due(act + " behind one day, ahead of one", trial("d1" + act + "d1"), 1);
            row(1, 2);
            due("what can be undone", x.count(6), 2);
        }
        due("no more to say", trial("s0s0d1"), 1);
        row(1, 2);
        due("under a cloth", trial("k0s0d1"), 1);
        row(1, 2);

        sentence(18, "the ROW: 1 if one could not be, else 0; DAY");
        parrots("01");
        due("the last one could not be", trial("d3m00"), 1);
        row(1, 3);
        due("all could be", trial("d3m01"), 2);
        row(0, 6);
        due("the first could not be", trial("m01d3"), 0);
        row(1, 6);
    }

    private void trialSigns() {
        sentence(18, "-1 - p: the sign at p can't stand there");
        parrots("01");
        for (String sign : new String[] {"D", "a", "0", ";", " ", "/", "" + (char) 0, "" + (char) 255}) {
            due("an act", trial(sign), -1);
            due("a second act", trial("d1" + sign), -3);
        }
        for (String sign : new String[] {"/", ":", "a", "x", "" + (char) 0, "" + (char) 255}) {
            due("a digit behind d", trial("d" + sign), -2);
            due("a digit behind m", trial("m" + sign), -2);
            due("a second digit behind m", trial("m0" + sign), -3);
            due("a digit behind k", trial("k" + sign), -2);
            due("a digit behind t", trial("t" + sign), -2);
            due("a digit behind s", trial("s" + sign), -2);
        }
        for (String sign : new String[] {"`", "i", "A", "0", "" + (char) 0, "" + (char) 255}) {
            due("a letter behind t", trial("t0" + sign), -3);
        }

        sentence(18, "(as parrots()");
        due("its end: d", trial("d"), -2);
        due("its end: m", trial("m"), -2);
        due("its end: m0", trial("m0"), -3);
        due("its end: k", trial("k"), -2);
        due("its end: t", trial("t"), -2);
        due("its end: t0", trial("t0"), -3);
        due("its end: s", trial("s"), -2);
        due("its end: 60 signs", trial(repeat("x", 59) + "d"), -61);

        sentence(18, "60 signs)");
        due("60", trial(repeat("x", 60)), 60);
        due("61", trial(repeat("x", 61)), -61);
        due("61, a sign that stands nowhere", trial(repeat("x", 60) + "?"), -61);
        due("61, the first 60 could go on", trial(repeat("x", 59) + "d1"), -61);
        due("80", trial(repeat("x", 80)), -61);
        due("80, bad at 59", trial(repeat("x", 59) + "?" + repeat("x", 20)), -60);

        sentence(18, "nothing is done then");
        parrots("01");
        x.unsaid();
        due("d9d9q", trial("d9d9q"), -5);
        due("d9m01s", trial("d9m01s"), -7);
        due("61", trial("d9" + repeat("x", 59)), -61);
        due("the day", x.count(1), 0);
        due("house", x.parrot(0, 0), 0);
        due("what can be undone", x.count(6), 0);
        row(255);
    }

    private void undoCalls() {
        sentence(19, "The latest days(), move(), cloth(), teach(), speak(), hush(), trial()");
        house(0, "ab");
        parrots("08;08");
        x.days(2);
        x.cloth(1);
        x.move(0, 3);
        x.move(0, 0);
        x.cloth(1);
        x.teach(0, 1);
        x.speak(0);
        x.hush();
        trial("d1s0");
        x.days(1);
        due("kept", x.count(6), 10);
        due("undo() of days()", x.undo(), 9);
        due("the day", x.count(1), 3);
        due("undo() of trial()", x.undo(), 8);
        due("the day", x.count(1), 2);
        due("out", x.parrot(0, 5), 0);
        due("heard by 1", x.parrot(1, 3), 3);
        due("undo() of hush()", x.undo(), 7);
        due("out", x.parrot(0, 5), 1);
        due("undo() of speak()", x.undo(), 6);
        due("out", x.parrot(0, 5), 0);
        due("heard by 1", x.parrot(1, 3), 2);
        due("taught", x.word(0, 1, 3), 1);
        due("undo() of teach()", x.undo(), 5);
        due("taught", x.word(0, 1, 3), 0);
        due("cloths", x.count(2), 0);
        due("undo() of cloth() taken off", x.undo(), 4);
        due("cloths", x.count(2), 2);
        due("house", x.parrot(0, 0), 0);
        due("undo() of move()", x.undo(), 3);
        due("house", x.parrot(0, 0), 3);
        due("undo() of move()", x.undo(), 2);
        due("house", x.parrot(0, 0), 0);
        due("cloths", x.count(2), 2);
        due("undo() of cloth() put over", x.undo(), 1);
        due("cloths", x.count(2), 0);
        due("the day", x.count(1), 2);
        due("undo() of days()", x.undo(), 0);

        sentence(19, "(of 12 that are kept, the latest ones");
        parrots("08");
        for (int i = 1; i <= 12; i++) {
            x.days(i);
            due("kept", x.count(6), i);
        }
        x.days(13);
        due("kept", x.count(6), 12);
        due("the day", x.count(1), 91);
        int day = 91;
        for (int i = 13; i > 1; i--) {
            due("undo()", x.undo(), i - 2);
            day -= i;
            due("the day", x.count(1), day);
        }
        due("the first can't be", x.undo(), -1);
        due("the day", x.count(1), 1);

        sentence(19, "such as were done");
        parrots("08");
        x.days(61);
        x.days(-1);
        x.move(0, 0);
        x.move(0, 4);
        x.cloth(1);
        x.teach(0, 0);
        x.teach(0, 8);
        x.speak(0);
        x.speak(1);
        trial("?");
        due("kept", x.count(6), 0);
        due("undo()", x.undo(), -1);

        sentence(19, "days() of 1 and more, hush() of 1 and more, trial() of which one ACT was done, as one)");
        parrots("08");
        x.days(0);
        x.hush();
        trial("");
        trial("m00");
        trial("s0d9");
        due("kept", x.count(6), 0);
        trial("x");
        due("hush() of none, in a trial()", x.count(6), 1);
        trial("d0");
        due("days() of none, in a trial()", x.count(6), 2);
        trial("d1d1s0m00");
        due("three ACTS as one", x.count(6), 3);
        due("undo()", x.undo(), 2);
        due("the day", x.count(1), 0);
        due("out", x.parrot(0, 5), 0);
        due("heard", x.parrot(0, 3), 0);
    }

    private void undoState() {
        sentence(19, "is undone (DAY, all of PARROTS but MEMORY is as ahead of it): how many are left that can be.");
        house(0, "ab");
        house(1, "cd");
        parrots("08;08");
        x.days(2);
        x.teach(0, 1);
        trial("d2m01d3k1t0cs0");
        due("undo()", x.undo(), 2);
        due("the day", x.count(1), 2);
        due("house", x.parrot(0, 0), 0);
        due("memory", x.parrot(0, 1), 8);
        due("cloth", x.parrot(1, 2), 0);
        due("heard", x.parrot(0, 3), 2);
        due("words", x.parrot(0, 4), 3);
        due("out", x.parrot(0, 5), 0);
        due("b often", x.word(0, 1, 0), 1);
        due("b first", x.word(0, 1, 1), 1);
        due("b last", x.word(0, 1, 2), 1);
        due("b taught", x.word(0, 1, 3), 1);
        due("c first", x.word(0, 2, 1), -1);
        due("c last", x.word(0, 2, 2), -1);
        due("c taught", x.word(0, 2, 3), 0);
        due("heard by 1", x.parrot(1, 3), 2);
        x.days(1);
        due("it is heard anew", x.word(0, 0, 2), 2);
        house(0, "h");
        worths("99999999");
        x.before(0, 1);
        x.note(0, 0);
        x.undo();
        due("a house stays", x.said(0, 0), 7);
        due("tellings stay", x.count(4), 1);
        due("notes stay", x.count(5), 1);

        sentence(19, "Refused: none.");
        due("at first", x.undo(), -1);
        parrots("08");
        due("behind parrots()", x.undo(), -1);
        x.days(1);
        due("one", x.undo(), 0);
        due("none is left", x.undo(), -1);
        due("none is left", x.undo(), -1);
        due("the day", x.count(1), 0);
        due("kept", x.count(6), 0);
    }

    private void undoForgotten() {
        sentence(19, "(parrots() and again() forget them, if they are not refused");
        parrots("08");
        x.days(1);
        x.keep(0);
        x.days(1);
        due("a refused parrots()", parrots("09"), -2);
        due("a parrots() that lacks", parrots("01;"), -4);
        due("a parrots() without room", parrots("01;01;01;01;01;01"), -16);
        due("a refused again()", x.again(1), false);
        due("a refused again()", x.again(2), false);
        due("kept", x.count(6), 2);
        due("again()", x.again(0), true);
        due("kept", x.count(6), 0);
        due("undo()", x.undo(), -1);
        due("the day", x.count(1), 1);
        x.days(1);
        due("parrots()", parrots("01"), 1);
        due("kept", x.count(6), 0);
        due("undo()", x.undo(), -1);
        due("the day", x.count(1), 2);
        x.days(1);
        due("an again() that is refused, as one came", x.again(0), false);
        due("kept", x.count(6), 1);

        sentence(19, "an empty parrots() does not.)");
        parrots("08");
        x.days(1);
        x.days(1);
        due("empty", parrots(""), 0);
        due("kept", x.count(6), 2);
        due("undo()", x.undo(), 1);
    }
}
