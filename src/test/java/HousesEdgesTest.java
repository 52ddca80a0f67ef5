/** Edges of promises 1 to 11: houses, parrots, worths. */
public final class HousesEdgesTest extends Edges {
    private HousesEdgesTest() {
        super("HousesEdgesTest", 1, 11);
    }

    public static void main(String[] args) {
        HousesEdgesTest t = new HousesEdgesTest();
        t.newObject();
        t.sign();
        t.end();
        t.house();
        t.parrotsLines();
        t.parrotsRoom();
        t.worths();
        t.rule();
        t.parrot();
        t.word();
        t.said();
        t.sheet();
        t.sheetRefused();
        t.finish();
    }

    private void newObject() {
        sentence(1, "Four HOUSES");
        due("house 0", x.count(10), 1);
        due("house 3", x.count(13), 1);
        due("a fifth", x.count(14), -100);

        sentence(1, "no PARROTS");
        due("count(0)", x.count(0), 0);
        due("parrot(0, 0) throws", parrotThrows(0, 0), true);
        due("says(0)", x.says(0), -1);
    }

    private void sign() {
        sentence(2, "Four signs come behind THE TEXT, of v the highest byte first: how many it has.");
        due("sign(abcd)", x.sign(0x61626364), 4);
        due("sign(efgh)", x.sign(0x65666768), 8);
        due("house(0)", x.house(0), 8);
        for (int n = 0; n < 8; n++) {
            due("said(0, " + n + ")", x.said(0, n), n);
        }
        due("the highest bit set", x.sign(0x80616161), 4);
        due("it is no word", x.house(0), -1);
        due("0 is four signs", x.sign(0), 4);
        due("-1 is four more", x.sign(-1), 8);

        sentence(2, "Refused: there would be more than 80.");
        text(repeat("a", 76));
        due("80", x.sign(0x61616161), 80);
        due("84", x.sign(0x61616161), -1);
        due("count(8)", x.count(8), 80);
        for (int signs = 77; signs <= 79; signs++) {
            text(repeat("a", signs));
            due(signs + " and 4", x.sign(0x61616161), -1);
            due("count(8)", x.count(8), signs);
        }
    }

    private void end() {
        sentence(3, "THE TEXT has its first n signs alone: true");
        text("abcd");
        due("all of it", x.end(4), true);
        due("two", x.end(2), true);
        due("count(8)", x.count(8), 2);
        x.sign(0x65666768);
        due("what comes behind them", x.house(0), 6);
        int[] words = {0, 1, 4, 5, 6, 7};
        for (int n = 0; n < 6; n++) {
            due("said(0, " + n + ")", x.said(0, n), words[n]);
        }
        due("none of none", x.end(0), true);
        text(repeat("a", 80));
        due("80 of 80", x.end(80), true);
        due("none of 80", x.end(0), true);
        due("count(8)", x.count(8), 0);

        sentence(3, "false if it has not so many, or n is below 0");
        due("1 of none", x.end(1), false);
        text("abcd");
        due("5 of 4", x.end(5), false);
        due("-1", x.end(-1), false);
        due("the least", x.end(Integer.MIN_VALUE), false);
        due("the most", x.end(Integer.MAX_VALUE), false);
        due("count(8)", x.count(8), 4);
        x.end(2);
        due("what was cut off does not come back", x.end(3), false);
    }

    private void house() {
        sentence(4, "THE TEXT is THE ROW of a HOUSE: how many WORDS.");
        due("one", house(3, "h"), 1);
        due("said(3, 0)", x.said(3, 0), 7);
        due("sixteen", house(3, "abcdefghhgfedcba"), 16);
        due("said(3, 15)", x.said(3, 15), 0);
        due("one again", house(3, "c"), 1);
        due("said(3, 15)", x.said(3, 15), 2);
        due("the others stay", x.count(12), 1);

        sentence(4, "-1 - p: the sign at p can't stand there");
        String[] none = {"`", "i", "A", "0", ";", " ", "" + (char) 0, "" + (char) 127, "" + (char) 255};
        for (String sign : none) {
            due("at 0", house(0, sign), -1);
            due("at 3", house(0, "abc" + sign + "abc"), -4);
            due("at 15", house(0, repeat("a", 15) + sign), -16);
        }
        due("the first of two", house(0, "abiaj"), -3);
        due("said(0, 1)", x.said(0, 1), 0);

        sentence(4, "(its end for none");
        due("none", house(0, ""), -1);
        due("count(10)", x.count(10), 1);

        sentence(4, "a seventeenth sign: at it)");
        due("17", house(0, repeat("b", 17)), -17);
        due("17, no word", house(0, repeat("b", 16) + "z"), -17);
        due("80", house(0, repeat("b", 80)), -17);
        due("18, the sixteenth no word", house(0, repeat("b", 15) + "zbb"), -16);
        due("said(0, 0)", x.said(0, 0), 0);

        sentence(4, "-100: no such HOUSE (asked first; THE TEXT is emptied).");
        for (int h : outside(3)) {
            due("a good text", house(h, "b"), -100);
            due("a bad text", house(h, "?"), -100);
            due("no text", house(h, ""), -100);
            due("a long text", house(h, repeat("b", 80)), -100);
        }
        for (int h = 0; h < 4; h++) {
            due("said(" + h + ", 0)", x.said(h, 0), 0);
        }
    }

    private void parrotsLines() {
        sentence(5, "THE TEXT tells of PARROTS (an empty one: nothing): how many LINES.");
        due("none", parrots(""), 0);
        due("count(0)", x.count(0), 0);
        due("one", parrots("01"), 1);
        due("five", parrots("12;23;34;05;16"), 5);
        due("none, though there is no room", parrots(""), 0);
        due("count(0)", x.count(0), 6);
        int[] houses = {0, 1, 2, 3, 0, 1};
        for (int p = 0; p < 6; p++) {
            due("house of " + p, x.parrot(p, 0), houses[p]);
            due("memory of " + p, x.parrot(p, 1), p + 1);
        }

        sentence(5, "-1 - p: the sign at p can't stand there");
        for (String sign : new String[] {"/", "4", "9", "a", ";", "" + (char) 0, "" + (char) 255}) {
            due("a house " + sign, parrots(sign + "1"), -1);
            due("a second house " + sign, parrots("01;" + sign + "1"), -4);
        }
        for (String sign : new String[] {"/", "0", "9", ":", "a", ";", "" + (char) 0, "" + (char) 255}) {
            due("a memory " + sign, parrots("0" + sign), -2);
            due("a sixth memory " + sign, parrots("01;01;01;01;01;0" + sign), -17);
        }
        for (String sign : new String[] {":", "<", ",", "0", "1", " ", "" + (char) 0, "" + (char) 255}) {
            due("between: " + sign, parrots("01" + sign + "01"), -3);
            due("behind all: " + sign, parrots("01;01" + sign), -6);
        }
        due("count(0)", x.count(0), 0);

        sentence(5, "(its end, if it ends too early");
        due("1", parrots("0"), -2);
        due("3", parrots("01;"), -4);
        due("4", parrots("01;0"), -5);
        due("15", parrots("01;01;01;01;01;"), -16);
        due("16", parrots("01;01;01;01;01;0"), -17);
        due("count(0)", x.count(0), 0);
    }

    private void parrotsRoom() {
        sentence(5, "17, if it has more and the first 17 could go on or end");
        String six = "01;01;01;01;01;01";
        due("18", parrots(six + ";"), -18);
        due("18, a sign that stands nowhere", parrots(six + "?"), -18);
        due("20", parrots(six + ";01"), -18);
        due("80", parrots(repeat("01;", 26) + "01"), -18);
        due("20, bad at 16", parrots("01;01;01;01;01;0?;01"), -17);
        due("20, bad at 0", parrots("?1;01;01;01;01;01;01"), -1);
        due("17", parrots(six), 6);

        sentence(5, "the first sign of a LINE for which there is no room)");
        due("one", parrots("01"), 1);
        due("six for five", parrots(six), -16);
        due("20 signs, six for five", parrots(six + ";01"), -16);
        due("five", parrots("01;01;01;01;01"), 5);
        due("one for none", parrots("01"), -1);
        due("six for none", parrots(six), -1);
        due("one sign for none", parrots("0"), -1);

        sentence(5, "Nothing of it comes, if a LINE can't.");
        due("a bad third", parrots("01;02;09"), -8);
        due("a third that lacks", parrots("01;02;"), -7);
        due("count(0)", x.count(0), 0);
        due("five", parrots("01;01;01;01;01"), 5);
        due("a second without room", parrots("38;38"), -4);
        due("count(0)", x.count(0), 5);
        due("a sixth", parrots("27"), 1);
        due("house of it", x.parrot(5, 0), 2);
        due("memory of it", x.parrot(5, 1), 7);
    }

    private void worths() {
        sentence(6, "THE TEXT is WORTHS of WORDS: their sum.");
        hearAll();
        due("the least", worths("00000000"), 0);
        due("the most", worths("99999999"), 72);
        due("each its own", worths("80000009"), 17);
        sayWorths(8, 0, 0, 0, 0, 0, 0, 9);

        sentence(6, "-1 - p: the sign at p can't stand there");
        hearAll();
        for (String sign : new String[] {"/", ":", "-", "a", " ", "" + (char) 0, "" + (char) 255}) {
            due("at 0", worths(sign + "2345678"), -1);
            due("at 1, and no more", worths("1" + sign), -2);
            due("at 7", worths("1234567" + sign), -8);
        }
        sayWorths(1, 1, 1, 1, 1, 1, 1, 1);

        sentence(6, "(its end, if it ends too early");
        hearAll();
        due("none", worths(""), -1);
        due("one", worths("9"), -2);
        due("seven", worths("9999999"), -8);
        sayWorths(1, 1, 1, 1, 1, 1, 1, 1);

        sentence(6, "a ninth sign: at it)");
        hearAll();
        due("nine", worths("999999999"), -9);
        due("nine, no digit", worths("99999999;"), -9);
        due("80", worths(repeat("9", 80)), -9);
        due("nine, the eighth no digit", worths("9999999;9"), -8);
        sayWorths(1, 1, 1, 1, 1, 1, 1, 1);
    }

    private void rule() {
        sentence(7, "THE TEXT is THE RULE (an empty one: none): 0.");
        hearAll();
        due("w", rule("w"), 0);
        due("by w", x.word(0, 7, 4), 7);
        due("none", rule(""), 0);
        due("by none", x.word(0, 7, 4), 3 - 7);

        sentence(7, "-1 - p: as parrots() (40 signs).");
        hearAll();
        rule("9");
        due("its end: a join", rule("n+"), -3);
        due("its end: a minus", rule("-"), -2);
        due("its end: opened", rule("("), -2);
        due("its end: not closed", rule("(n"), -3);
        due("its end: 40 signs", rule(repeat("n+", 20)), -41);
        due("40 of 41 that could end", rule("10" + repeat("+n", 19) + "+"), -41);
        due("40 of 41 that could go on", rule(repeat("n+", 20) + "n"), -41);
        due("40 of 80", rule(repeat("n+", 40)), -41);
        due("40 of 41, a sign that stands nowhere", rule("10" + repeat("+n", 19) + "?"), -41);
        due("bad at 39", rule("n" + repeat("+n", 19) + ")n"), -40);
        due("bad at 0", rule("?" + repeat("n+", 30)), -1);
        for (String sign : new String[] {" ", "!", ",", ".", ";", "?", "a", "N", "~", "" + (char) 0, "" + (char) 255}) {
            due("where a thing is due", rule(sign), -1);
            due("behind a thing", rule("n" + sign), -2);
            due("within brackets", rule("(" + sign + ")"), -2);
        }
        due("the rule stays", x.word(0, 3, 4), 9);
        x = new ParrotsLast();
        hearAll();
        due("refused", rule("2*-(3+(n<"), -10);
        due("none of it is left", rule("7"), 0);
        due("by 7", x.word(0, 3, 4), 7);
        due("refused", rule("(((n<2)<2"), -10);
        due("none of it is left", rule("(n<2)+((n<2)*3)"), 0);
        due("by 1 + 3", x.word(0, 3, 4), 4);
    }

    private void parrot() {
        sentence(8, "Of a parrot, what 0: HOUSE, 1: MEMORY, 2: 1 under a CLOTH, 3: HEARD, 4: WORDS that it heard (bits), 5: OUT.");
        house(3, "h");
        parrots("31;38");
        int[] fresh = {3, 1, 0, 0, 0, 0};
        for (int what = 0; what < 6; what++) {
            due("parrot(0, " + what + ")", x.parrot(0, what), fresh[what]);
        }
        x.days(2);
        x.speak(0);
        x.cloth(0);
        int[] then = {3, 1, 1, 2, 128, 1};
        for (int what = 0; what < 6; what++) {
            due("parrot(0, " + what + ")", x.parrot(0, what), then[what]);
        }

        sentence(8, "NoSuchElementException: none such, another what.");
        due("without parrots", parrotThrows(0, 0), true);
        parrots("31;38");
        for (int p : outside(1)) {
            due("parrot(" + p + ", 0) throws", parrotThrows(p, 0), true);
        }
        for (int what : outside(5)) {
            due("parrot(0, " + what + ") throws", parrotThrows(0, what), true);
        }
        due("parrot(1, 5) throws", parrotThrows(1, 5), false);
    }

    private void word() {
        sentence(9, "Of a parrot and a WORD, what 0: how often heard, 1: as which first, 2: as which last (NONE, NONE: never), "
                + "3: how often TAUGHT, 4: FONDNESS (0, if it never heard it).");
        house(0, "ah");
        parrots("08");
        rule("5");
        x.days(3);
        x.teach(0, 7);
        int[][] due = {{2, 0, 2, 0, 5}, {0, -1, -1, 0, 0}, {1, 1, 1, 1, 5}};
        int[] words = {0, 1, 7};
        for (int i = 0; i < 3; i++) {
            for (int what = 0; what < 5; what++) {
                due("word(0, " + words[i] + ", " + what + ")", x.word(0, words[i], what), due[i][what]);
            }
        }

        sentence(9, "NoSuchElementException: likewise.");
        due("without parrots", wordThrows(0, 0, 0), true);
        parrots("08;08");
        for (int p : outside(1)) {
            due("word(" + p + ", 0, 0) throws", wordThrows(p, 0, 0), true);
        }
        for (int w : outside(7)) {
            due("word(0, " + w + ", 0) throws", wordThrows(0, w, 0), true);
        }
        for (int what : outside(4)) {
            due("word(0, 0, " + what + ") throws", wordThrows(0, 0, what), true);
        }
        due("word(1, 7, 4) throws", wordThrows(1, 7, 4), false);
    }

    private void said() {
        sentence(10, "The WORD that is said in a HOUSE in n DAYS (0: on this one .. 99).");
        house(3, "abcde");
        x.days(4);
        due("on this one", x.said(3, 0), 4);
        due("on the next one", x.said(3, 1), 0);
        due("in 99", x.said(3, 99), 3);
        due("without parrots, nothing is heard", x.count(1), 4);

        sentence(10, "NONE: others.");
        for (int n : outside(99)) {
            due("said(0, " + n + ")", x.said(0, n), -1);
        }
        for (int h : outside(3)) {
            due("said(" + h + ", 0)", x.said(h, 0), -1);
        }
    }

    private void sheet() {
        sentence(11, "bytes (kind 0), shorts (1), ints (2) of n entries f, f + step, ..");
        hearAll();
        for (int kind = 0; kind < 3; kind++) {
            due("eight", x.sheet(kind, 8, 1, 1), 36);
            sayWorths(1, 2, 3, 4, 5, 6, 7, 8);
            due("downwards", x.sheet(kind, 3, 9, -4), 15);
            sayWorths(9, 5, 1, 0, 0, 0, 0, 0);
        }
        due("over the highest", x.sheet(2, 3, Integer.MAX_VALUE, 1), 9);
        sayWorths(9, 0, 0, 0, 0, 0, 0, 0);
        due("under the lowest", x.sheet(2, 2, Integer.MIN_VALUE, -1), 9);
        sayWorths(0, 9, 0, 0, 0, 0, 0, 0);
        due("back to 0", x.sheet(2, 3, 4, Integer.MIN_VALUE), 8);
        sayWorths(4, 0, 4, 0, 0, 0, 0, 0);

        sentence(11, "(of bytes, shorts the lowest bits, with their sign");
        due("byte 127", x.sheet(0, 1, 127, 0), 9);
        due("byte 128", x.sheet(0, 1, 128, 0), 0);
        due("byte 255", x.sheet(0, 1, 255, 0), 0);
        due("byte 256", x.sheet(0, 1, 256, 0), 0);
        due("byte 257", x.sheet(0, 1, 257, 0), 1);
        due("byte -253", x.sheet(0, 1, -253, 0), 3);
        due("short 257", x.sheet(1, 1, 257, 0), 9);
        due("short 32767", x.sheet(1, 1, 32767, 0), 9);
        due("short 32768", x.sheet(1, 1, 32768, 0), 0);
        due("short 65538", x.sheet(1, 1, 65538, 0), 2);
        due("short -65533", x.sheet(1, 1, -65533, 0), 3);
        due("int 65538", x.sheet(2, 1, 65538, 0), 9);
        due("int -65533", x.sheet(2, 1, -65533, 0), 0);
        due("bytes 254 to 261", x.sheet(0, 8, 254, 1), 15);

        sentence(11, "put to 0 .. 9)");
        due("-1", x.sheet(2, 1, -1, 0), 0);
        due("0", x.sheet(2, 1, 0, 0), 0);
        due("9", x.sheet(2, 1, 9, 0), 9);
        due("10", x.sheet(2, 1, 10, 0), 9);
        due("the least", x.sheet(2, 1, Integer.MIN_VALUE, 0), 0);
        due("the most", x.sheet(2, 1, Integer.MAX_VALUE, 0), 9);

        sentence(11, "those behind it have 0: the sum of all.");
        hearAll();
        due("at first, none told", x.sheet(2, 0, 5, 5), 0);
        sayWorths(0, 0, 0, 0, 0, 0, 0, 0);
        x.sheet(2, 8, 3, 0);
        due("seven", x.sheet(2, 7, 2, 0), 14);
        sayWorths(2, 2, 2, 2, 2, 2, 2, 0);
        due("one", x.sheet(2, 1, 2, 0), 2);
        sayWorths(2, 0, 0, 0, 0, 0, 0, 0);
    }

    private void sheetRefused() {
        sentence(11, "-2: n below 0 (of kinds 0 .. 2; nothing changes)");
        hearAll();
        for (int kind = 0; kind < 3; kind++) {
            due("-1", x.sheet(kind, -1, 5, 0), -2);
            due("the least", x.sheet(kind, Integer.MIN_VALUE, 5, 0), -2);
        }
        sayWorths(1, 1, 1, 1, 1, 1, 1, 1);

        sentence(11, "or a missing one (3)");
        due("0", x.sheet(3, 0, 5, 5), -3);
        due("8", x.sheet(3, 8, 5, 5), -3);
        due("-1", x.sheet(3, -1, 5, 5), -3);
        due("the least", x.sheet(3, Integer.MIN_VALUE, 5, 5), -3);

        sentence(11, "-3: missing (all 0).");
        hearAll();
        due("missing", x.sheet(3, 8, 5, 5), -3);
        sayWorths(0, 0, 0, 0, 0, 0, 0, 0);

        sentence(11, "NONE: another kind, n above 8 (these first).");
        hearAll();
        for (int kind : outside(3)) {
            due("kind " + kind, x.sheet(kind, 8, 5, 0), -1);
            due("kind " + kind + ", n below 0", x.sheet(kind, -1, 5, 0), -1);
        }
        for (int kind = 0; kind < 4; kind++) {
            due("nine", x.sheet(kind, 9, 5, 0), -1);
            due("the most", x.sheet(kind, Integer.MAX_VALUE, 5, 0), -1);
        }
        sayWorths(1, 1, 1, 1, 1, 1, 1, 1);
    }
}
