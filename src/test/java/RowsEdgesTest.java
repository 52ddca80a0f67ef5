/** Edges of promises 30 to 37: rows of words; what was before what. */
public final class RowsEdgesTest extends Edges {
    private RowsEdgesTest() {
        super("RowsEdgesTest", 30, 37);
    }

    public static void main(String[] args) {
        RowsEdgesTest t = new RowsEdgesTest();
        t.blend();
        t.blendRefused();
        t.source();
        t.alike();
        t.unlike();
        t.before();
        t.clash();
        t.drop();
        t.finish();
    }

    private void blend() {
        sentence(30, "THE TEXT is A TALE (0 to 16 letters a .. h)");
        house(0, repeat("h", 16));
        due("none", blend(0, 1, ""), 1);
        row(0);
        due("16", blend(0, 1, repeat("h", 16)), 1);
        row(16);
        due("16, one of the other", blend(0, 1, repeat("h", 15) + "a"), 1);
        row(15);

        sentence(30, "whether it can be put together from the beginning of THE ROW of one HOUSE and the beginning of that of another one "
                + "(each goes on from its first WORD, in its order");
        house(0, "abc");
        house(1, "def");
        due("one by one", blend(0, 1, "adbecf"), 1);
        row(3);
        due("one alone", blend(0, 1, "abc"), 1);
        row(3);
        due("the other alone", blend(0, 1, "def"), 1);
        row(0);
        due("beginnings", blend(0, 1, "dab"), 1);
        row(2);
        due("not from its second word", blend(0, 1, "b"), 0);
        due("not with one left out", blend(0, 1, "ac"), 0);
        due("not in another order", blend(0, 1, "ba"), 0);
        due("not of a third house", blend(0, 2, "adb"), 0);

        sentence(30, "not over again): 1, else 0");
        house(0, "ab");
        due("all of both", blend(0, 1, "aba"), 1);
        due("one over again", blend(0, 1, "abab"), 0);
        due("the other over again", blend(0, 1, "aaba"), 0);
        due("16 of 2", blend(2, 3, repeat("a", 16)), 0);
        due("2 of 2", blend(2, 3, "aa"), 1);
        due("3 of 2", blend(2, 3, "aaa"), 0);

        sentence(30, "the ROW, if it can (else it stays): how many WORDS are of the first (of all ways the fewest).");
        house(0, repeat("a", 16));
        house(1, "aaab");
        x.unsaid();
        due("it can't", blend(0, 1, "b"), 0);
        row(255);
        due("none of the first", blend(0, 1, "aaab"), 1);
        row(0);
        due("all but b could be", blend(0, 1, "aaaaab"), 1);
        row(2);
        due("turned about", blend(1, 0, "aaaaab"), 1);
        row(4);
        due("none of the first", blend(1, 0, repeat("a", 16)), 1);
        row(0);
        due("at least 13 of the first", blend(0, 1, repeat("a", 16)), 1);
        row(13);
        due("it can't", blend(0, 1, "bb"), 0);
        row(13);
    }

    private void blendRefused() {
        sentence(30, "-1 - p: the sign at p can't stand there (a seventeenth sign: at it).");
        x.unsaid();
        for (String sign : new String[] {"`", "i", "A", "1", " ", "" + (char) 0, "" + (char) 255}) {
            due("at 0", blend(0, 1, sign), -1);
            due("at 15", blend(0, 1, repeat("a", 15) + sign), -16);
        }
        due("17", blend(0, 1, repeat("a", 17)), -17);
        due("17, no word", blend(0, 1, repeat("a", 16) + "?"), -17);
        due("80", blend(0, 1, repeat("a", 80)), -17);
        due("17, one ahead no word", blend(0, 1, "a?" + repeat("a", 15)), -2);
        row(255);

        sentence(30, "-100: none such HOUSES, like ones (asked first; THE TEXT is emptied).");
        x.unsaid();
        for (int h : outside(3)) {
            due("blend(" + h + ", 0)", blend(h, 0, "a"), -100);
            due("blend(0, " + h + ")", blend(0, h, "a"), -100);
            due("blend(" + h + ", " + h + ")", blend(h, h, "?"), -100);
        }
        for (int h = 0; h < 4; h++) {
            due("blend(" + h + ", " + h + ")", blend(h, h, ""), -100);
            due("blend(" + h + ", " + h + "), a bad text", blend(h, h, repeat("?", 80)), -100);
        }
        row(255);
    }

    private void source() {
        sentence(31, "THE TEXT is A TALE (as blend())");
        due("none, of any two", source(""), 1);
        row(6);
        house(2, repeat("b", 16));
        due("16", source(repeat("b", 16)), 2);
        row(3);

        sentence(31, "the two HOUSES (the lesser first; the least pair) from which it can be put together so: 10 times the first, and the second");
        house(0, "a");
        house(1, "b");
        house(2, "c");
        house(3, "d");
        due("0 and 1", source("ba"), 1);
        due("0 and 2", source("ca"), 2);
        due("0 and 3", source("da"), 3);
        due("1 and 2", source("cb"), 12);
        due("1 and 3", source("db"), 13);
        due("2 and 3", source("dc"), 23);
        due("the least pair", source("d"), 3);
        due("the least pair", source("b"), 1);

        sentence(31, "the ROW: of how many pairs it can");
        due("of all", source("aa"), 1);
        row(6);
        house(3, "b");
        due("of the three with house 3", source("ab"), 3);
        row(3);
        house(2, "c");
        due("of one", source("bc"), 23);
        row(1);

        sentence(31, "-1 - p: likewise");
        x.unsaid();
        due("at 0", source("i"), -1);
        due("at 15", source(repeat("a", 15) + "`"), -16);
        due("17", source(repeat("a", 17)), -17);
        due("17, no word", source(repeat("a", 16) + "?"), -17);
        due("80", source(repeat("a", 80)), -17);
        row(255);

        sentence(31, "-200: of none.");
        x.unsaid();
        due("b", source("b"), -200);
        due("three of two", source("aaa"), -200);
        due("16 of two", source(repeat("a", 16)), -200);
        row(255);
    }

    private void alike() {
        sentence(32, "The most WORDS that two parrots say in the same order (others between them left out): how many");
        house(0, "abcdefgh");
        house(1, "abcdefgh");
        house(2, "hgfedcba");
        parrots("08;18;28;01;21");
        due("nothing yet", x.alike(0, 1), 0);
        row();
        x.days(8);
        due("all eight", x.alike(0, 1), 8);
        row(0, 1, 2, 3, 4, 5, 6, 7);
        due("one, turned about", x.alike(0, 2), 1);
        row(0);
        due("one, by a memory of 1", x.alike(2, 3), 1);
        row(0);
        due("none", x.alike(3, 4), 0);
        row();

        sentence(32, "the ROW: they (of as many the least row)");
        house(0, "dcba");
        house(1, "badc");
        parrots("08;18");
        x.days(4);
        due("ba, or dc", x.alike(0, 1), 2);
        row(1, 0);
        due("turned about", x.alike(1, 0), 2);
        row(1, 0);
        x = new ParrotsLast();
        house(0, "acb");
        house(1, "bac");
        parrots("08;18");
        x.days(3);
        due("ac, as b is not behind a by the other", x.alike(0, 1), 2);
        row(0, 2);
        due("turned about", x.alike(1, 0), 2);
        row(0, 2);

        sentence(32, "NONE: none such, like ones.");
        due("without parrots", x.alike(0, 1), -1);
        parrots("08;08");
        x.unsaid();
        for (int p : outside(1)) {
            due("alike(" + p + ", 0)", x.alike(p, 0), -1);
            due("alike(0, " + p + ")", x.alike(0, p), -1);
            due("alike(" + p + ", " + p + ")", x.alike(p, p), -1);
        }
        due("alike(1, 1)", x.alike(1, 1), -1);
        row(255);
    }

    private void unlike() {
        sentence(33, "How many pairs of WORDS that both of two parrots say they say in another order: how many; the ROW: how many both say.");
        house(0, "abcdefgh");
        house(2, "hgfedcba");
        parrots("08;08;28;01;21");
        due("nothing yet", x.unlike(0, 1), 0);
        row(0);
        x.days(8);
        due("none of 28", x.unlike(0, 1), 0);
        row(8);
        due("all 28", x.unlike(0, 2), 28);
        row(8);
        due("one word has no pair", x.unlike(2, 3), 0);
        row(1);
        due("none in common", x.unlike(3, 4), 0);
        row(0);

        sentence(33, "NONE: likewise.");
        due("without parrots", x.unlike(0, 1), -1);
        parrots("08;08");
        x.unsaid();
        for (int p : outside(1)) {
            due("unlike(" + p + ", 0)", x.unlike(p, 0), -1);
            due("unlike(0, " + p + ")", x.unlike(0, p), -1);
            due("unlike(" + p + ", " + p + ")", x.unlike(p, p), -1);
        }
        due("unlike(1, 1)", x.unlike(1, 1), -1);
        row(255);
    }

    private void before() {
        sentence(34, "It is told that a WORD was said before another one: how many tellings.");
        due("one", x.before(0, 7), 1);
        due("the other way too", x.before(7, 0), 2);
        due("the same again", x.before(0, 7), 3);
        due("they need not be heard", x.count(4), 3);

        sentence(34, "Refused: none such, like ones, 12.");
        for (int w : outside(7)) {
            due("before(" + w + ", 0)", x.before(w, 0), -1);
            due("before(0, " + w + ")", x.before(0, w), -1);
            due("before(" + w + ", " + w + ")", x.before(w, w), -1);
        }
        for (int w = 0; w < 8; w++) {
            due("before(" + w + ", " + w + ")", x.before(w, w), -1);
        }
        due("count(4)", x.count(4), 0);
        for (int i = 1; i <= 12; i++) {
            due("before(1, 2)", x.before(1, 2), i);
        }
        due("a thirteenth", x.before(2, 1), -1);
        due("count(4)", x.count(4), 12);
        due("it does not clash", x.clash(), -2);
        x.forget();
        due("forgotten, there is room", x.before(2, 1), 1);

        sentence(35, "They are forgotten: how many there were.");
        due("none", x.forget(), 0);
        for (int i = 0; i < 12; i++) {
            x.before(i % 2, 1 - i % 2);
        }
        due("12", x.forget(), 12);
        due("none", x.forget(), 0);
        due("count(4)", x.count(4), 0);
        due("none clash", x.clash(), -2);
        due("none to drop", x.drop(), 0);
    }

    private void clash() {
        sentence(36, "The fewest tellings that clash (a WORD before another one, and so on, before itself): how many");
        tell("ah ha");
        due("two", x.clash(), 2);
        tell("ab bc cd de ef fg gh ha");
        due("eight", x.clash(), 8);
        tell("ab bc cd de ef fg gh ha cb");
        due("two rather than eight", x.clash(), 2);
        row(1, 2);
        tell("ab bc ca");
        due("three", x.clash(), 3);

        sentence(36, "the ROW: the WORDS of such a ring, from its least one on (of as short ones the least row).");
        tell("hg gf fh");
        x.clash();
        row(5, 7, 6);
        tell("ha gh fg ef de cd bc ab");
        x.clash();
        row(0, 1, 2, 3, 4, 5, 6, 7);
        tell("gh hg ef fe cd dc");
        x.clash();
        row(2, 3);
        tell("ah hc ca ac cb ba");
        due("two of six", x.clash(), 2);
        row(0, 2);
        tell("ag gc ca ab bh ha");
        x.clash();
        row(0, 1, 7);
        tell("ah hb ba hd da");
        x.clash();
        row(0, 7, 1);

        sentence(36, "-2: none clash.");
        x.unsaid();
        due("none told", x.clash(), -2);
        tell("ab bc cd de ef fg gh ah ac bd ce df");
        due("12 that hold together", x.clash(), -2);
        row(255);
    }

    private void drop() {
        sentence(37, "The fewest tellings to be dropped so that none clash: how many");
        due("none told", x.drop(), 0);
        row(0);
        tell("ab bc cd de ef fg gh ah ac bd ce df");
        due("12 that hold together", x.drop(), 0);
        row(0);
        tell("ab bc cd de ef fg gh ha");
        due("one of a ring of eight", x.drop(), 1);
        row(1);
        tell("ab ba ab ba ab ba ab ba ab ba ab ba");
        due("six of twelve", x.drop(), 6);
        row(1 + 4 + 16 + 64 + 256 + 1024);

        sentence(37, "the ROW: which (bits by their numbers, from 0: of as few the least).");
        tell("ab ab ab ab ab ab ab ab ab ab ab ba");
        due("the last", x.drop(), 1);
        row(2048);
        tell("ba ab ab");
        due("the first", x.drop(), 1);
        row(1);
        tell("ab ba");
        due("either: the first", x.drop(), 1);
        row(1);
        tell("bc ab ba cb");
        due("one of each ring: 0 or 3, 1 or 2", x.drop(), 2);
        row(3);
        tell("ab bc ca ac");
        due("ca alone, though it is not the first", x.drop(), 1);
        row(4);
    }
}
