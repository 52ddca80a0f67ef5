/** Edges of promises 20 to 29: what they say; crackers, hearings. */
public final class SayingEdgesTest extends Edges {
    private SayingEdgesTest() {
        super("SayingEdgesTest", 20, 29);
    }

    public static void main(String[] args) {
        SayingEdgesTest t = new SayingEdgesTest();
        t.says();
        t.place();
        t.soonest();
        t.unsaid();
        t.later();
        t.alters();
        t.crackers();
        t.stay();
        t.hear();
        t.gain();
        t.finish();
    }

    private void says() {
        sentence(20, "WHAT a parrot SAYS now: how many WORDS; the ROW: they, in turn.");
        house(0, "hgfedcba");
        parrots("08;07;01");
        due("nothing yet", x.says(0), 0);
        row();
        x.days(1);
        due("one word", x.says(2), 1);
        row(7);
        x.days(7);
        due("all eight", x.says(0), 8);
        row(7, 6, 5, 4, 3, 2, 1, 0);
        due("seven of eight", x.says(1), 7);
        row(7, 6, 5, 4, 3, 2, 1);
        due("one of eight", x.says(2), 1);
        row(7);
        x.teach(0, 0);
        x.teach(0, 0);
        x.says(0);
        row(0, 7, 6, 5, 4, 3, 2, 1);
        x.cloth(0);
        x.speak(2);
        due("under a cloth, and out, no matter", x.says(0), 8);

        sentence(20, "NONE: none such.");
        due("without parrots", x.says(0), -1);
        parrots("08;08");
        x.unsaid();
        for (int p : outside(1)) {
            due("says(" + p + ")", x.says(p), -1);
        }
        row(255);
    }

    private void place() {
        sentence(21, "The place (0 on) of a WORD in WHAT a parrot SAYS: it.");
        hearAll();
        for (int w = 0; w < 8; w++) {
            due("place(0, " + w + ")", x.place(0, w), w);
        }

        sentence(21, "-2: it is not in it");
        house(0, "ba");
        parrots("01");
        due("nothing yet", x.place(0, 1), -2);
        x.days(2);
        due("its first", x.place(0, 1), 0);
        due("heard, but beyond its memory", x.place(0, 0), -2);
        due("never heard", x.place(0, 7), -2);

        sentence(21, "NONE: none such.");
        due("without parrots", x.place(0, 0), -1);
        parrots("08;08");
        for (int p : outside(1)) {
            due("place(" + p + ", 0)", x.place(p, 0), -1);
        }
        for (int w : outside(7)) {
            due("place(0, " + w + ")", x.place(0, w), -1);
        }
    }

    private void soonest() {
        sentence(22, "The parrot that says a WORD at the first place: it, of equal ones the first");
        house(0, "ba");
        house(1, "ab");
        parrots("08;18;18;08;08;18");
        x.days(2);
        due("a", x.soonest(0), 1);
        due("b", x.soonest(1), 0);

        sentence(22, "the ROW: the place, how many parrots say it at all");
        house(0, "abcdefgh");
        house(1, "h");
        parrots("08;07;08;08;08;08");
        x.days(8);
        due("h at the last place", x.soonest(7), 0);
        row(7, 5);
        due("a at the first", x.soonest(0), 0);
        row(0, 6);
        x.move(5, 1);
        x.days(2);
        due("h by the last parrot, behind a and b", x.soonest(7), 5);
        row(2, 5);

        sentence(22, "-2: none says it");
        due("without parrots", x.soonest(0), -2);
        house(0, "ab");
        parrots("01");
        due("nothing yet", x.soonest(0), -2);
        x.days(2);
        due("heard, but beyond its memory", x.soonest(1), -2);
        due("never heard", x.soonest(2), -2);
        row(2);

        sentence(22, "NONE: none such.");
        parrots("01");
        for (int w : outside(7)) {
            due("soonest(" + w + ")", x.soonest(w), -1);
        }
    }

    private void unsaid() {
        sentence(23, "WORDS that no parrot says now (bits)");
        due("without parrots", x.unsaid(), 255);
        house(0, "ah");
        parrots("01;01");
        due("nothing yet", x.unsaid(), 255);
        x.days(2);
        due("h is beyond their memory", x.unsaid(), 254);
        x.teach(1, 7);
        due("one of them says it", x.unsaid(), 254 - 128);

        sentence(23, "the ROW: those that none has heard.");
        x.unsaid();
        row(255);
        house(0, "ah");
        parrots("01");
        x.days(2);
        x.unsaid();
        row(255 - 1 - 128);
        house(0, "abcdefgh");
        x.days(8);
        due("all but one", x.unsaid(), 254);
        row(0);
        parrots("08");
        x.days(8);
        due("none", x.unsaid(), 0);
        row(0);
    }

    private void later() {
        sentence(24, "WHAT a parrot SAYS in n DAYS (0 .. 60), if nothing else is done: how many WORDS; the ROW: they.");
        house(0, "abcdefgh");
        parrots("08;07;08");
        due("now", x.later(0, 0), 0);
        row();
        due("tomorrow", x.later(0, 1), 1);
        row(0);
        due("in 8", x.later(0, 8), 8);
        row(0, 1, 2, 3, 4, 5, 6, 7);
        due("in 8, by a memory of 7", x.later(1, 8), 7);
        row(0, 1, 2, 3, 4, 5, 6);
        rule("(h=60)*w");
        due("in 59", x.later(0, 59), 8);
        row(0, 1, 2, 3, 4, 5, 6, 7);
        due("in 60", x.later(0, 60), 8);
        row(7, 6, 5, 4, 3, 2, 1, 0);
        x.days(7);
        rule("");
        due("from day 7 on", x.later(2, 1), 8);
        row(0, 1, 2, 3, 4, 5, 6, 7);
        x.cloth(2);
        due("under a cloth", x.later(2, 60), 7);
        row(0, 1, 2, 3, 4, 5, 6);
        due("the day", x.count(1), 7);

        sentence(24, "NONE: others.");
        due("without parrots", x.later(0, 0), -1);
        parrots("08;08");
        x.unsaid();
        for (int p : outside(1)) {
            due("later(" + p + ", 0)", x.later(p, 0), -1);
        }
        for (int n : outside(60)) {
            due("later(0, " + n + ")", x.later(0, n), -1);
        }
        row(255);
    }

    private void alters() {
        sentence(25, "In how many DAYS (1 .. 60) WHAT a parrot SAYS is first otherwise than now: how many");
        house(0, "ab");
        parrots("08");
        due("tomorrow", x.alters(0), 1);
        row(0, 0);
        x.days(2);
        rule("(h=62)*w");
        due("in 60", x.alters(0), 60);
        row(0, 1);
        rule("(h=40)*w");
        due("in 38, and not in 39", x.alters(0), 38);
        row(0, 1);
        rule("(h=2)*w");
        due("tomorrow", x.alters(0), 1);
        row(0, 0);

        // A parrot never says fewer: the words that it heard only grow, and its memory stays.
        sentence(25, "the ROW: the first place at which it is other, the WORD there then (NONE, if it says fewer).");
        house(0, "hgfedcba");
        parrots("08;07");
        x.days(7);
        due("a word behind all", x.alters(0), 1);
        row(7, 0);
        rule("-w");
        due("a word ahead of all", x.alters(0), 1);
        row(0, 0);
        due("a word ahead of all, by a memory of 7", x.alters(1), 1);
        row(0, 0);
        rule("0-(w=0)");
        due("a word beyond its memory", x.alters(1), -2);
        rule("w-(h>7)*(w=7)*6");
        due("from its first place on", x.alters(1), 1);
        row(0, 6);
        rule("w-(h>7)*(w=3)*9");
        due("from a place within on", x.alters(1), 1);
        row(4, 2);

        sentence(25, "-2: not in 60");
        parrots("08;08");
        x.cloth(1);
        x.days(1);
        due("the same word again and again", x.alters(0), -2);
        due("under a cloth", x.alters(1), -2);
        house(0, "ab");
        rule("(h>61)*w");
        x.days(2);
        due("in 59", x.alters(0), 59);
        rule("(h=64)*w");
        due("in 61", x.alters(0), -2);
        row(0, 1);

        sentence(25, "NONE: none such.");
        due("without parrots", x.alters(0), -1);
        parrots("08;08");
        for (int p : outside(1)) {
            due("alters(" + p + ")", x.alters(p), -1);
        }
    }

    private void crackers() {
        sentence(26, "The fewest crackers (0 .. 40) of a WORD by which a parrot says it first: how many.");
        house(0, "ab");
        parrots("01");
        x.days(2);
        due("none", x.crackers(0, 0), 0);
        due("one: 7 against 3", x.crackers(0, 1), 1);
        rule("t*w+(w=0)*39");
        due("40", x.crackers(0, 1), 40);
        rule("t-w*40");
        due("none", x.crackers(0, 0), 0);
        rule("t+w*40");
        due("40, as like ones are told the lesser first", x.crackers(0, 0), 40);
        rule("t-(w=0)");
        due("one, as like ones are told the lesser first", x.crackers(0, 0), 1);
        rule("(t=5)*w");
        due("five, and not six", x.crackers(0, 1), 5);
        due("nothing is taught", x.word(0, 1, 3), 0);

        sentence(26, "-2: not by 40, or it never heard it");
        house(0, "ab");
        parrots("01");
        due("never heard", x.crackers(0, 0), -2);
        x.days(2);
        due("never heard", x.crackers(0, 2), -2);
        rule("t*w+(w=0)*40");
        due("by 41", x.crackers(0, 1), -2);
        rule("t+w*41");
        due("by 41", x.crackers(0, 0), -2);
        rule("-t");
        due("never", x.crackers(0, 1), -2);

        sentence(26, "NONE: none such.");
        due("without parrots", x.crackers(0, 0), -1);
        parrots("08;08");
        for (int p : outside(1)) {
            due("crackers(" + p + ", 0)", x.crackers(p, 0), -1);
        }
        for (int w : outside(7)) {
            due("crackers(0, " + w + ")", x.crackers(0, w), -1);
        }
    }

    private void stay() {
        sentence(27, "The fewest DAYS (0 .. 60) in a HOUSE");
        house(0, "ab");
        house(1, "c");
        parrots("08");
        due("one, as it heard nothing", x.stay(0, 0, 0), 1);
        due("not b, by like ones", x.stay(0, 0, 1), -2);
        x.days(2);
        due("none", x.stay(0, 0, 0), 0);
        due("none, in a house where it is not said", x.stay(0, 3, 0), 0);
        due("2: 6 - 2 against 3 - 0", x.stay(0, 1, 2), 2);
        rule("(h>61)*w");
        due("60", x.stay(0, 1, 2), 60);

        sentence(27, "(it is brought there now, and without a CLOTH)");
        house(0, "a");
        house(2, "bcd");
        parrots("08");
        rule("l");
        x.days(1);
        x.cloth(0);
        due("d, said there on day 2", x.stay(0, 2, 3), 2);
        due("c, said there on day 1", x.stay(0, 2, 2), 1);
        due("b, said there on day 3", x.stay(0, 2, 1), 3);
        due("it is still where it was", x.parrot(0, 0), 0);
        due("it is still under it", x.parrot(0, 2), 1);
        due("heard", x.parrot(0, 3), 1);
        due("the day", x.count(1), 1);

        sentence(27, "-2: not in 60");
        house(1, "c");
        parrots("08");
        x.days(2);
        due("never said there", x.stay(0, 0, 2), -2);
        rule("(h>62)*w");
        due("in 61", x.stay(0, 1, 2), -2);
        rule("-w");
        due("never first", x.stay(0, 1, 2), -2);

        sentence(27, "NONE: none such.");
        due("without parrots", x.stay(0, 0, 0), -1);
        parrots("08;08");
        for (int p : outside(1)) {
            due("stay(" + p + ", 0, 0)", x.stay(p, 0, 0), -1);
        }
        for (int h : outside(3)) {
            due("stay(0, " + h + ", 0)", x.stay(0, h, 0), -1);
        }
        for (int w : outside(7)) {
            due("stay(0, 0, " + w + ")", x.stay(0, 0, w), -1);
        }
    }

    private void hear() {
        sentence(28, "The fewest parrots to be heard so that all WORDS told as bits are among the first k (1 .. 8) that one of these says: how many");
        due("no words, without parrots", x.hear(0, 8), 0);
        row(0);
        hearOneEach("abcdef");
        due("none", x.hear(0, 1), 0);
        row(0);
        due("all six", x.hear(63, 1), 6);
        row(63);
        house(0, "hgfedcba");
        trial("k5d8d1");
        due("all words by the last one", x.hear(255, 8), 1);
        row(32);
        due("but by none but it", x.hear(128, 7), 1);
        row(32);
        rule("-w");
        due("the first 7 of it", x.hear(128, 7), -2);
        due("the first 8 of it", x.hear(128, 8), 1);
        row(32);

        sentence(28, "the ROW: they (bits: of as few the least)");
        hearOneEach("aabbcc");
        due("one of each pair", x.hear(7, 1), 3);
        row(1 + 4 + 16);
        due("the latter pairs", x.hear(6, 1), 2);
        row(4 + 16);

        sentence(28, "-2: not by all");
        due("without parrots", x.hear(1, 8), -2);
        hearOneEach("abcdef");
        x.unsaid();
        due("g", x.hear(64, 8), -2);
        due("all", x.hear(255, 8), -2);
        row(255 - 63);

        sentence(28, "NONE: others.");
        parrots("08");
        for (int those : outside(255)) {
            due("hear(" + those + ", 1)", x.hear(those, 1), -1);
        }
        for (int k : outside(8)) {
            due("hear(0, " + k + ")", x.hear(0, k), -1);
        }
        due("hear(0, 0)", x.hear(0, 0), -1);
        due("hear(0, 1)", x.hear(0, 1), 0);
        due("hear(255, 8)", x.hear(255, 8), -2);
    }

    private void gain() {
        sentence(29, "WORTH of the first k (0 .. 8) that a parrot says, added up: how much");
        hearAll();
        worths("99999998");
        due("none", x.gain(0, 0), 0);
        row(0, 0);
        due("one", x.gain(0, 1), 9);
        due("seven", x.gain(0, 7), 63);
        due("eight", x.gain(0, 8), 71);
        row(0, 71);
        parrots("01");
        x.days(1);
        due("eight of one", x.gain(1, 8), 9);
        row(0, 71);

        sentence(29, "the ROW: the parrot by whom that is the most (of equal ones the first), how much");
        hearOneEach("abcbca");
        worths("12300000");
        due("nothing is the most", x.gain(5, 0), 0);
        row(0, 0);
        due("a", x.gain(5, 1), 1);
        row(2, 3);
        worths("00000000");
        due("all alike", x.gain(5, 8), 0);
        row(0, 0);
        worths("90000000");
        due("a", x.gain(5, 8), 9);
        row(0, 9);

        sentence(29, "NONE: others.");
        due("without parrots", x.gain(0, 0), -1);
        parrots("08;08");
        x.unsaid();
        for (int p : outside(1)) {
            due("gain(" + p + ", 0)", x.gain(p, 0), -1);
        }
        for (int k : outside(8)) {
            due("gain(0, " + k + ")", x.gain(0, k), -1);
        }
        row(255);
    }
}
