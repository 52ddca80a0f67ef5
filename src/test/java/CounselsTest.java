/** Promises 38 to 46: counsels, chances, which it was; rests, rules, trials. */
public final class CounselsTest extends Due {
    private CounselsTest() {
        super("CounselsTest");
    }

    public static void main(String[] args) {
        CounselsTest t = new CounselsTest();
        t.counsels();
        t.sure();
        t.note();
        t.strike();
        t.fits();
        t.ask();
        t.rests();
        t.law();
        t.years();
        t.finish();
    }

    private void counsels() {
        promise(38);
        house(0, "abcd");
        parrots("08;02;18;01");
        due("nothing to take", x.counsels(0), 100);
        row(-1);
        x.days(4);
        worths("37910000");
        due("3 7 9 1", x.counsels(0), 104);
        row(0);
        worths("17930000");
        due("1 7 9 3", x.counsels(0), 100);
        row(0);
        worths("38210000");
        due("3 8 2 1", x.counsels(0), 104);
        row(1);
        worths("11110000");
        due("like ones", x.counsels(0), 100);
        row(0);
        worths("29000000");
        due("2 9", x.counsels(1), 107);
        row(1);
        due("one word", x.counsels(3), 102);
        row(0);
        due("counsels(4)", x.counsels(4), -1);
        due("counsels(-1)", x.counsels(-1), -1);
        row(0);
        house(1, "abcdefgh");
        x.days(60);
        rule("-w");
        worths("12345678");
        due("1 to 8", x.counsels(2), 104);
        row(1);
        worths("87654321");
        due("8 to 1", x.counsels(2), 104);
        row(0);
    }

    private void sure() {
        promise(39);
        house(0, "abcdefgh");
        parrots("03;08;18");
        x.cloth(2);
        x.days(8);
        due("2 of 3 by 5", x.sure(0, 5, 2), 0);
        row(1, 2);
        due("2 of 3 by 3", x.sure(0, 3, 2), 0);
        row(27, 125);
        due("0 of 3", x.sure(0, 3, 0), 0);
        row(1, 1);
        due("4 of 3", x.sure(0, 10, 4), 0);
        row(0, 1);
        due("3 of 3 by 10", x.sure(0, 10, 3), 0);
        row(1, 1);
        due("1 of 3 by 0", x.sure(0, 0, 1), 0);
        row(0, 1);
        due("0 of 3 by 0", x.sure(0, 0, 0), 0);
        row(1, 1);
        due("8 of 8 by 3", x.sure(1, 3, 8), 0);
        row(6561, 100000000);
        due("1 of 8 by 1", x.sure(1, 1, 1), 0);
        row(100000000 - 43046721, 100000000);
        due("0 of none", x.sure(2, 4, 0), 0);
        row(1, 1);
        due("1 of none", x.sure(2, 4, 1), 0);
        row(0, 1);
        due("sure(0, -1, 0)", x.sure(0, -1, 0), -1);
        due("sure(0, 11, 0)", x.sure(0, 11, 0), -1);
        due("sure(0, 5, -1)", x.sure(0, 5, -1), -1);
        due("sure(0, 5, 9)", x.sure(0, 5, 9), -1);
        due("sure(3, 5, 0)", x.sure(3, 5, 0), -1);
        due("sure(-1, 5, 0)", x.sure(-1, 5, 0), -1);
        row(0, 1);
    }

    private void note() {
        promise(40);
        int[] least = {0, 0, 0, 1, 0};
        int[] most = {7, 7, 3, 8, 7};
        int notes = 0;
        for (int what = 0; what < 5; what++) {
            due("below", x.note(what, least[what] - 1), -1);
            due("above", x.note(what, most[what] + 1), -1);
            due("least", x.note(what, least[what]), ++notes);
            due("most", x.note(what, most[what]), ++notes);
        }
        due("note(5, 1)", x.note(5, 1), -1);
        due("note(-1, 1)", x.note(-1, 1), -1);
        due("an eleventh", x.note(0, 1), 11);
        due("a twelfth", x.note(0, 1), 12);
        due("a thirteenth", x.note(0, 1), -1);
        due("count(5)", x.count(5), 12);
    }

    private void strike() {
        promise(41);
        due("strike()", x.strike(), 0);
        parrots("08");
        x.note(0, 3);
        x.note(2, 1);
        due("strike()", x.strike(), 2);
        due("count(5)", x.count(5), 0);
        due("fits()", x.fits(), 1);
        due("note(2, 0)", x.note(2, 0), 1);
        due("fits()", x.fits(), 1);
    }

    private void hearFour() {
        house(0, "abc");
        house(1, "bad");
        parrots("08;18;02;11");
        x.days(3);
    }

    private void onlyNote(int what, int v, int fits) {
        x.strike();
        x.note(what, v);
        due("fits() by note(" + what + ", " + v + ")", x.fits(), fits);
        row(Integer.bitCount(fits));
    }

    private void fits() {
        promise(42);
        due("without parrots", x.fits(), 0);
        row(0);
        hearFour();
        due("without notes", x.fits(), 15);
        row(4);
        onlyNote(0, 0, 1 + 2 + 4);
        onlyNote(0, 2, 1);
        onlyNote(0, 7, 0);
        onlyNote(1, 0, 8);
        onlyNote(1, 2, 2 + 4 + 8);
        onlyNote(2, 1, 2 + 8);
        onlyNote(3, 2, 1 + 2 + 4);
        onlyNote(3, 8, 1 + 2);
        onlyNote(3, 1, 15);
        onlyNote(4, 0, 1 + 4);
        onlyNote(4, 1, 2 + 8);
        onlyNote(4, 2, 0);
        x.strike();
        x.note(0, 0);
        x.note(1, 2);
        x.note(2, 0);
        due("all notes", x.fits(), 4);
        x.days(60);
        due("now", x.fits(), 4);
        x.move(2, 1);
        due("now", x.fits(), 0);
    }

    private void ask() {
        promise(43);
        due("without parrots", x.ask(), -2);
        hearFour();
        due("a: three and one; c: one and three; none two and two but", x.ask(), 0);
        row(3);
        x.note(3, 8);
        due("a: two; c: one", x.ask(), 2);
        row(1);
        x.note(2, 1);
        due("one is left", x.ask(), 0);
        row(1);
        x.note(2, 0);
        due("none fits", x.ask(), -2);
        row(1);
    }

    private void rests() {
        promise(44);
        due("rests(0)", x.rests(0), 2);
        row(8, 8);
        due("rests(9)", x.rests(9), 1);
        row(1, 1);
        for (int v = 0; v < 10; v++) {
            restsBySearch(v);
        }
        x.unsaid();
        due("rests(10)", x.rests(10), -1);
        due("rests(-1)", x.rests(-1), -1);
        row(255);
    }

    private void restsBySearch(int v) {
        int pairs = 0;
        int least = -1;
        for (int pair = 99; pair >= 0; pair--) {
            boolean better = false;
            for (int z = 0; z < 10; z++) {
                better |= has(z, pair % 10, v) > has(pair / 10, pair % 10, v);
                better |= has(z, pair / 10, v) > has(pair % 10, pair / 10, v);
            }
            if (!better) {
                pairs++;
                least = pair;
            }
        }
        due("rests(" + v + ")", x.rests(v), pairs);
        if (pairs > 0) {
            row(least / 10, least % 10);
        } else {
            row();
        }
    }

    private static int has(int own, int other, int v) {
        return own + other == 0 ? 10 : 20 * own / (own + other) - v * own;
    }

    private void law() {
        promise(45);
        due("without parrots", law("n"), 0);
        row(0);
        house(0, "abc");
        house(1, "cba");
        parrots("08;18;01;38");
        x.days(3);
        due("w", law("w"), 2);
        row(1 + 4);
        due("-w", law("-w"), 1);
        row(2);
        due("none", law(""), 0);
        row(0);
        rule("w");
        due("none", law(""), 2);
        row(1 + 4);
        due("THE RULE stays", x.word(0, 2, 4), 2);
        due("x", law("x"), -10000);
        due("n+", law("n+"), -10002);
        due("n<f<l", law("n<f<l"), -10003);
        due("41 signs", law("n" + repeat("+n", 20)), -10040);
        row(1 + 4);
        due("THE RULE stays", x.word(0, 2, 4), 2);
        due("w*2", law("w*2"), 0);
        row(0);
    }

    private void years() {
        promise(46);
        due("years(1, 0)", x.years(1, 0), -1);
        due("years(1, 61)", x.years(1, 61), -1);
        due("years(1, -5)", x.years(1, -5), -1);
        due("the ROW stays", x.count(7), 0);
        due("without parrots", x.years(1, 60), 0);
        row(0, 0);
        house(0, "ab");
        house(1, "cd");
        parrots("08;18;02");
        x.days(1);
        for (int seed = -3; seed < 40; seed++) {
            for (int n = 1; n <= 60; n += 7) {
                yearsByHand(seed * 12345678, n);
            }
        }
        due("a question changes nothing", x.count(1), 1);
        due("a question changes nothing", x.parrot(0, 3), 1);
    }

    private int r;

    private int draw(int n) {
        r = r * 1103515245 + 12345;
        return (int) (((r + 0x100000000L) % 0x100000000L) / 65536 % n);
    }

    /** The same acts by the calls of another object like it. */
    private void yearsByHand(int seed, int n) {
        ParrotsLast asked = x;
        int spoke = x.years(seed, n);
        x = new ParrotsLast();
        house(0, "ab");
        house(1, "cd");
        parrots("08;18;02");
        x.days(1);
        r = seed;
        int due = 0;
        for (int i = 0; i < n; i++) {
            int what = draw(5);
            if (what < 2) {
                x.days(1);
            } else {
                int p = draw(3);
                if (what == 2) {
                    due += x.speak(p) >= 0 ? 1 : 0;
                } else if (what == 3) {
                    x.move(p, draw(4));
                } else {
                    x.teach(p, draw(8));
                }
            }
        }
        long heard = x.parrot(0, 3) + x.parrot(1, 3) + x.parrot(2, 3);
        long words = x.parrot(0, 4) | x.parrot(1, 4) | x.parrot(2, 4);
        x = asked;
        due("years(" + seed + ", " + n + ")", spoke, due);
        row(heard, words);
    }
}
