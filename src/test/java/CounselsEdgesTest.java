/** Edges of promises 38 to 46: counsels, chances, which it was; rests, rules, trials. */
public final class CounselsEdgesTest extends Edges {
    private CounselsEdgesTest() {
        super("CounselsEdgesTest", 38, 46);
    }

    public static void main(String[] args) {
        CounselsEdgesTest t = new CounselsEdgesTest();
        t.counsels();
        t.sure();
        t.note();
        t.fits();
        t.ask();
        t.rests();
        t.law();
        t.yearsDays();
        t.yearsActs();
        t.yearsDraws();
        t.finish();
    }

    private void counsels() {
        sentence(38, "Two counsels take, by turns, the first or the last one that is left of WHAT a parrot SAYS, and have its WORTH; "
                + "each wants the most more than the other: 100 and what the first has more by best play of both");
        house(0, "abcdefgh");
        parrots("08;03;02;01");
        x.days(8);
        worths("90909090");
        due("nine times four", x.counsels(0), 136);
        worths("00000000");
        due("nothing", x.counsels(0), 100);
        worths("09000000");
        due("0 9 0: the second has more", x.counsels(1), 91);
        due("0 9", x.counsels(2), 109);
        due("0", x.counsels(3), 100);
        worths("90000000");
        due("9", x.counsels(3), 109);
        worths("25310000");
        due("2 5 3", x.counsels(1), 100);
        row(0);

        sentence(38, "the ROW: which he takes first (0 the first, 1 the last; of like ones 0; NONE, if there is none).");
        house(0, "abcdefgh");
        parrots("08;02;01");
        due("nothing to take", x.counsels(0), 100);
        row(-1);
        x.days(8);
        due("one word", x.counsels(2), 101);
        row(0);
        due("like ones", x.counsels(1), 100);
        row(0);
        worths("90909090");
        x.counsels(0);
        row(0);
        worths("09090909");
        due("the last", x.counsels(0), 136);
        row(1);
        worths("12000000");
        due("the last of two", x.counsels(1), 101);
        row(1);
        worths("21000000");
        due("the first of two", x.counsels(1), 101);
        row(0);
        worths("00000000");
        x.counsels(0);
        row(0);

        sentence(38, "NONE: none such.");
        due("without parrots", x.counsels(0), -1);
        parrots("08;08");
        x.unsaid();
        for (int p : outside(1)) {
            due("counsels(" + p + ")", x.counsels(p), -1);
        }
        row(255);
    }

    private void sure() {
        sentence(39, "Each WORD that a parrot says is right by p tenths (0 .. 10): how likely k (0 .. 8) or more are: 0; the ROW: the fraction.");
        hearAll();
        parrots("01;08");
        x.cloth(2);
        x.days(1);
        for (int p = 0; p <= 10; p++) {
            due("0 or more", x.sure(0, p, 0), 0);
            row(1, 1);
            due("0 or more of none", x.sure(2, p, 0), 0);
            row(1, 1);
            due("1 or more of none", x.sure(2, p, 1), 0);
            row(0, 1);
            due("2 or more of one", x.sure(1, p, 2), 0);
            row(0, 1);
        }
        for (int k = 1; k <= 8; k++) {
            due("never right", x.sure(0, 0, k), 0);
            row(0, 1);
            due("always right", x.sure(0, 10, k), 0);
            row(1, 1);
        }
        x.sure(1, 4, 1);
        row(2, 5);
        x.sure(0, 1, 8);
        row(1, 100000000);
        x.sure(0, 9, 8);
        row(43046721, 100000000);
        x.sure(0, 9, 1);
        row(99999999, 100000000);
        x.sure(0, 5, 7);
        row(9, 256);

        sentence(39, "NONE: others.");
        due("without parrots", x.sure(0, 0, 0), -1);
        parrots("08;08");
        x.unsaid();
        for (int p : outside(1)) {
            due("sure(" + p + ", 5, 0)", x.sure(p, 5, 0), -1);
        }
        for (int p : outside(10)) {
            due("sure(0, " + p + ", 0)", x.sure(0, p, 0), -1);
        }
        for (int k : outside(8)) {
            due("sure(0, 5, " + k + ")", x.sure(0, 5, k), -1);
        }
        row(255);
    }

    private void note() {
        sentence(40, "what 0: it says WORD v (0 .. 7); 1: it does not; 2: its HOUSE is v (0 .. 3); "
                + "3: MEMORY is v (1 .. 8) or more; 4: it says WORD v first: how many such.");
        int[] least = {0, 0, 0, 1, 0};
        int[] most = {7, 7, 3, 8, 7};
        int many = 0;
        for (int what = 0; what < 5; what++) {
            due("note(" + what + ", the least)", x.note(what, least[what]), ++many);
            due("note(" + what + ", the most)", x.note(what, most[what]), ++many);
        }
        due("the same again", x.note(0, 0), 11);

        sentence(40, "Refused: others, 12.");
        for (int what = 0; what < 5; what++) {
            for (int v : outside(most[what])) {
                due("note(" + what + ", " + v + ")", x.note(what, v), -1);
            }
        }
        due("note(3, 0)", x.note(3, 0), -1);
        for (int what : outside(4)) {
            due("note(" + what + ", 1)", x.note(what, 1), -1);
        }
        due("count(5)", x.count(5), 0);
        for (int i = 1; i <= 12; i++) {
            due("note(3, 1)", x.note(3, 1), i);
        }
        parrots("08");
        due("a thirteenth", x.note(2, 3), -1);
        due("count(5)", x.count(5), 12);
        due("it is not among them", x.fits(), 1);

        sentence(41, "They are struck out: how many there were.");
        due("none", x.strike(), 0);
        for (int i = 0; i < 12; i++) {
            x.note(2, 3);
        }
        parrots("08");
        due("none fits", x.fits(), 0);
        due("12", x.strike(), 12);
        due("none", x.strike(), 0);
        due("count(5)", x.count(5), 0);
        due("all fit", x.fits(), 1);
        due("there is room", x.note(2, 0), 1);
    }

    private void fits() {
        sentence(42, "Parrots (bits) that fit all notes now; the ROW: how many.");
        due("without parrots", x.fits(), 0);
        row(0);
        x.note(0, 0);
        due("without parrots, by a note", x.fits(), 0);
        row(0);
        x.strike();
        house(0, "ab");
        parrots("01;02;08;38;01;02");
        due("no notes", x.fits(), 63);
        row(6);
        x.note(1, 0);
        due("nothing is said yet", x.fits(), 63);
        row(6);
        x.strike();
        x.note(4, 0);
        due("nothing is said first yet", x.fits(), 0);
        row(0);
        x.days(2);
        due("a first", x.fits(), 63);
        x.note(0, 1);
        due("b, beyond a memory of 1", x.fits(), 63 - 1 - 8 - 16);
        row(3);
        x.note(3, 3);
        due("a memory of 3 or more", x.fits(), 4);
        row(1);
        x.note(3, 8);
        due("a memory of 8", x.fits(), 4);
        x.note(2, 3);
        due("house 3", x.fits(), 0);
        row(0);
        x.move(2, 3);
        due("now it is there", x.fits(), 4);
        x.note(1, 1);
        due("notes that can't be together", x.fits(), 0);
        row(0);
    }

    private void ask() {
        sentence(43, "The WORD to ask for next, so that, said by it or not, the fewest such parrots are left at most");
        hearOneEach("gggggg");
        house(0, "h");
        trial("k0k1k2d1");
        due("h: three and three", x.ask(), 7);
        row(3);

        sentence(43, "of equal ones the first: it; the ROW: how many at most.");
        hearOneEach("hhhhhh");
        due("six and none, by every word", x.ask(), 0);
        row(6);
        x = new ParrotsLast();
        hearOneEach("bcdefg");
        due("one and five, by b to g", x.ask(), 1);
        row(5);
        x = new ParrotsLast();
        hearOneEach("hhhccc");
        due("three and three, by c and h", x.ask(), 2);
        row(3);
        x.note(0, 7);
        due("three and none, by every word", x.ask(), 0);
        row(3);
        x = new ParrotsLast();
        parrots("08");
        due("one that says nothing", x.ask(), 0);
        row(1);

        sentence(43, "-2: none fits.");
        x.unsaid();
        due("without parrots", x.ask(), -2);
        parrots("08");
        x.note(2, 3);
        due("not in house 3", x.ask(), -2);
        row(255);
    }

    private void rests() {
        sentence(44, "Pairs by which neither would have more by another number alone: how many; the ROW: the least (nothing without).");
        int[] pairs = {2, 10, 5, 2, 2, 1, 1, 1, 1, 1};
        int[] least = {8, 3, 2, 1, 1, 1, 1, 1, 1, 1};
        for (int v = 0; v < 10; v++) {
            due("rests(" + v + ")", x.rests(v), pairs[v]);
            row(least[v], least[v]);
        }

        // By 9, one question against none is 20 - 9, more than 10: none asked is no rest. By 0, of two that
        // ask 9 neither has more by 8 (9 of 20, cut), and 10 is no number; of two that ask 8 neither by 9 (10, cut).
        sentence(44, "Two counsels ask x and y questions (0 .. 9 each); each has 20 times its own by both together "
                + "(cut; 10 each, if none asks), less v (0 .. 9) for each of its own.");
        due("the least v: 8 and 8, 9 and 9", x.rests(0), 2);
        row(8, 8);
        due("the most v: 1 and 1", x.rests(9), 1);
        row(1, 1);

        sentence(44, "NONE: another v.");
        x.unsaid();
        for (int v : outside(9)) {
            due("rests(" + v + ")", x.rests(v), -1);
        }
        row(255);
    }

    private void law() {
        sentence(45, "THE TEXT is another RULE (an empty one: none): by how many parrots it would be said otherwise: how many; the ROW: they (bits).");
        due("without parrots", law("w"), 0);
        row(0);
        house(0, "ab");
        parrots("08;08;08;08;08;02");
        due("nothing is said yet", law("w"), 0);
        row(0);
        x.days(2);
        due("none, by none", law(""), 0);
        row(0);
        due("by all", law("w"), 6);
        row(63);
        due("in the same order", law("9-w"), 0);
        row(0);
        rule("w");
        due("none, by w", law(""), 6);
        row(63);
        due("the same", law("w"), 0);
        row(0);
        due("THE RULE stays", x.word(0, 1, 4), 1);
        x = new ParrotsLast();
        house(0, "abc");
        parrots("01;02;03");
        x.days(3);
        due("beyond a memory of 1", law("(w=0)*9+w"), 2);
        row(6);

        sentence(45, "-10000 - p: the sign at p can't stand there (as rule()).");
        x.unsaid();
        due("at 0", law("?"), -10000);
        due("at 3", law("n<f<l"), -10003);
        due("its end", law("n+"), -10002);
        due("its end: 40 signs", law(repeat("n+", 20)), -10040);
        due("41 signs", law("n" + repeat("+n", 20)), -10040);
        due("41 signs, a sign that stands nowhere", law("10" + repeat("+n", 19) + "?"), -10040);
        due("80 signs, bad at 39", law("n" + repeat("+n", 19) + ")" + repeat("n", 40)), -10039);
        due("a fifth bracket", law("(((((n)))))"), -10004);
        due("a fourth digit", law("1000"), -10003);
        row(255);
        due("40 signs", law("10" + repeat("+n", 19)), 0);
    }

    private void yearsDays() {
        sentence(46, "n times (1 .. 60)");
        due("once", x.years(0, 1), 0);
        due("60 times", x.years(0, 60), 0);

        sentence(46, "a DRAW of 5 tells: 0, 1: a DAY");
        parrots("08");
        due("0", x.years(0, 1), 0);
        row(1, 1);
        due("1", x.years(2, 1), 0);
        row(1, 1);
        x.cloth(0);
        due("under a cloth", x.years(0, 1), 0);
        row(0, 0);

        sentence(46, "nothing, no DRAWS more, without PARROTS)");
        for (int seed = 0; seed < 50; seed++) {
            due("years(" + seed + ", 60)", x.years(seed, 60), 0);
            row(0, 0);
        }

        sentence(46, "how many spoke; the ROW: HEARD of all together then, WORDS that some parrot heard (bits).");
        house(3, "h");
        parrots("08;38;08;08;08;08");
        x.cloth(4);
        due("a day for five of six", x.years(0, 1), 0);
        row(5, 1 + 128);
        due("nothing is done", x.count(1), 0);
        due("nothing is heard", x.parrot(0, 3), 0);

        sentence(46, "NONE: another n.");
        parrots("08");
        x.unsaid();
        for (int n : outside(60)) {
            due("years(0, " + n + ")", x.years(0, n), -1);
        }
        due("years(0, 0)", x.years(0, 0), -1);
        row(255);
    }

    private void yearsActs() {
        sentence(46, "2: a DRAW of PARROTS tells one that speaks, if it can (as speak())");
        parrots("08");
        due("nothing to say", x.years(4, 1), 0);
        row(0, 0);
        x.days(1);
        due("one word", x.years(4, 1), 1);
        row(1, 1);
        due("one word, twice", x.years(22, 2), 1);
        x.speak(0);
        due("no more to say", x.years(4, 1), 0);
        x.hush();
        x.cloth(0);
        due("under a cloth", x.years(4, 1), 0);
        x.cloth(0);
        parrots("08;08;08;08;38");
        x.cloth(1);
        x.move(2, 1);
        x.move(5, 0);
        x.days(1);
        due("the last of six: three others hear it", x.years(66, 1), 1);
        row(6 + 3, 1);

        sentence(46, "3: a DRAW of PARROTS one, a DRAW of 4 the HOUSE to which it comes (that where it is: nothing)");
        house(0, "b");
        house(3, "h");
        parrots("08");
        due("to house 3, a day", x.years(306, 2), 0);
        row(1, 128);
        due("to house 0, where it is, a day", x.years(14, 2), 0);
        row(1, 2);
        x.cloth(0);
        due("under a cloth it comes too", x.years(306, 2), 0);
        row(0, 0);
        parrots("08;08;08;08;08");
        x.cloth(0);
        due("the last of six to house 3, a day", x.years(414, 2), 0);
        row(6, 2 + 128);

        // Parrot 0 has heard a and b. Taught b in between, it says a and a, and parrot 1 has one word to say.
        sentence(46, "4: a DRAW of PARROTS one, a DRAW of 8 a WORD that it is TAUGHT, if it heard it (2 .. 4:");
        house(0, "ab");
        parrots("08;08");
        trial("k1d2k1");
        due("0 says two words, 1 says both", x.years(9145, 4), 4);
        row(6, 3);
        due("0 says one, is taught b, says one; 1 speaks twice", x.years(7087, 5), 3);
        row(5, 3);
        due("0 says one, is taught h, which it never heard, says one; 1 speaks twice", x.years(726167, 5), 4);
        row(6, 3);
    }

    private void yearsDraws() {
        sentence(46, "A DRAW of n: R = R times 1103515245 + 12345 (as ints; R is seed at first), (R without sign, by 65536) % n.");
        house(0, "ab");
        house(1, "cd");
        house(2, "e");
        house(3, "fgh");
        parrots("02;18;23;08");
        x.cloth(3);
        x.days(2);
        yearsOf(0, 1, 0, 9, 31);
        yearsOf(0, 60, 5, 87, 255);
        yearsOf(1, 59, 8, 76, 255);
        yearsOf(-1, 1, 1, 6, 31);
        yearsOf(-1, 60, 9, 73, 255);
        yearsOf(Integer.MIN_VALUE, 7, 2, 15, 31);
        yearsOf(Integer.MIN_VALUE, 60, 7, 83, 255);
        yearsOf(Integer.MAX_VALUE, 7, 1, 14, 31);
        yearsOf(Integer.MAX_VALUE, 60, 4, 99, 31);
        yearsOf(123456789, 60, 5, 54, 255);
        x = new ParrotsLast();
        parrots("08");
        yearsOf(3, 1, 0, 1, 1);
    }

    private void yearsOf(int seed, int n, int spoke, int heard, int words) {
        due("years(" + seed + ", " + n + ")", x.years(seed, n), spoke);
        row(heard, words);
    }
}
