/** Promises 1 to 11: houses, parrots, worths. */
public final class HousesTest extends Due {
    private HousesTest() {
        super("HousesTest");
    }

    public static void main(String[] args) {
        HousesTest t = new HousesTest();
        t.newObject();
        t.sign();
        t.end();
        t.house();
        t.parrots();
        t.parrotsWithoutRoom();
        t.worths();
        t.ruleValues();
        t.ruleSigns();
        t.ruleBehindRefused();
        t.ruleLength();
        t.parrot();
        t.word();
        t.said();
        t.sheet();
        t.finish();
    }

    private void newObject() {
        promise(1);
        due("NONE", ParrotsLast.NONE, -1);
        for (int what = 0; what <= 8; what++) {
            due("count(" + what + ")", x.count(what), 0);
        }
        for (int h = 0; h < 4; h++) {
            due("count(1" + h + ")", x.count(10 + h), 1);
            due("said(" + h + ", 7)", x.said(h, 7), 0);
        }
        due("undo()", x.undo(), -1);
        due("again(0)", x.again(0), false);
        parrots("01");
        x.days(1);
        rule("v");
        due("the worth of a", x.word(0, 0, 4), 1);
    }

    private void sign() {
        promise(2);
        due("sign(abcd)", x.sign('a' << 24 | 'b' << 16 | 'c' << 8 | 'd'), 4);
        due("house(2)", x.house(2), 4);
        for (int n = 0; n < 4; n++) {
            due("said(2, " + n + ")", x.said(2, n), n);
        }
        due("sign(-1)", x.sign(-1), 4);
        due("house(0) of signs 255", x.house(0), -1);
        for (int i = 1; i <= 20; i++) {
            due("sign(0)", x.sign(0), 4 * i);
        }
        due("sign(0) of 84", x.sign(0), -1);
        due("count(8)", x.count(8), 80);
        x.end(77);
        due("sign(0) of 81", x.sign(0), -1);
        due("count(8)", x.count(8), 77);
        x.end(76);
        due("sign(0) of 80", x.sign(0), 80);
    }

    private void end() {
        promise(3);
        due("end(0)", x.end(0), true);
        due("end(1)", x.end(1), false);
        due("end(-1)", x.end(-1), false);
        x.sign('a' << 24 | 'b' << 16);
        due("end(5)", x.end(5), false);
        due("end(4)", x.end(4), true);
        due("count(8)", x.count(8), 4);
        due("end(Integer.MIN_VALUE)", x.end(Integer.MIN_VALUE), false);
        due("end(2)", x.end(2), true);
        due("count(8)", x.count(8), 2);
        due("end(3)", x.end(3), false);
        due("house(0)", x.house(0), 2);
    }

    private void house() {
        promise(4);
        due("house", house(1, "habc"), 4);
        due("count(11)", x.count(11), 4);
        due("said(1, 0)", x.said(1, 0), 7);
        due("said(1, 3)", x.said(1, 3), 2);
        due("said(1, 4)", x.said(1, 4), 7);
        due("none", house(1, ""), -1);
        due("i", house(1, "i"), -1);
        due("A", house(1, "abA"), -3);
        due("`", house(1, "ab`"), -3);
        due("17", house(1, repeat("a", 17)), -17);
        due("17, the last no word", house(1, repeat("a", 16) + "z"), -17);
        due("17, an earlier one no word", house(1, "az" + repeat("a", 15)), -2);
        due("no such house", house(4, "a"), -100);
        due("no such house, no such sign", house(-1, "?"), -100);
        due("count(11)", x.count(11), 4);
        due("16", house(1, repeat("h", 16)), 16);
        due("said(1, 99)", x.said(1, 99), 7);
        due("shorter", house(1, "b"), 1);
        due("said(1, 5)", x.said(1, 5), 1);
    }

    private void parrots() {
        promise(5);
        due("none", parrots(""), 0);
        due("two", parrots("31;28"), 2);
        due("count(0)", x.count(0), 2);
        due("house of 0", x.parrot(0, 0), 3);
        due("memory of 0", x.parrot(0, 1), 1);
        due("house of 1", x.parrot(1, 0), 2);
        due("memory of 1", x.parrot(1, 1), 8);
        due("one more", parrots("04"), 1);
        due("memory of 2", x.parrot(2, 1), 4);
        due("4", parrots("41"), -1);
        due("-", parrots("-1"), -1);
        due("00", parrots("00"), -2);
        due("09", parrots("09"), -2);
        due("0", parrots("0"), -2);
        due("01;", parrots("01;"), -4);
        due("01,01", parrots("01,01"), -3);
        due("01;0", parrots("01;0"), -5);
        due("01;00", parrots("01;00"), -5);
        due(";", parrots(";"), -1);
        due("count(0)", x.count(0), 3);
    }

    private void parrotsWithoutRoom() {
        promise(5);
        due("18 signs", parrots("01;01;01;01;01;01;"), -18);
        due("17 and a sign that stands nowhere", parrots("01;01;01;01;01;01?"), -18);
        due("bad ahead of 17", parrots("01;01;01;01;01;09;01"), -17);
        due("17 that end too early", parrots("01;01;01;01;01;0;;01"), -17);
        due("16 signs", parrots("01;01;01;01;01;0"), -17);
        due("count(0)", x.count(0), 0);
        due("five", parrots("01;12;23;34;05"), 5);
        due("two for one", parrots("01;01"), -4);
        due("two for one, bad ahead", parrots("09;01"), -2);
        due("two for one, bad behind", parrots("01;0?"), -4);
        due("count(0)", x.count(0), 5);
        due("one", parrots("38"), 1);
        due("none has room", parrots("?"), -1);
        due("none has room", parrots("01"), -1);
        due("nothing needs no room", parrots(""), 0);
        due("count(0)", x.count(0), 6);
        due("house of 5", x.parrot(5, 0), 3);
    }

    private void worths() {
        promise(6);
        due("eight", worths("12345670"), 28);
        house(0, "abcdefgh");
        parrots("08");
        x.days(8);
        rule("v");
        due("v of b", x.word(0, 1, 4), 2);
        due("v of h", x.word(0, 7, 4), 0);
        due("none", worths(""), -1);
        due("seven", worths("9999999"), -8);
        due("nine", worths("999999999"), -9);
        due("nine, the last no digit", worths("99999999x"), -9);
        due("a", worths("9a"), -2);
        due("/", worths("/2345678"), -1);
        due(":", worths("99999999".substring(1) + ":"), -8);
        due("v of b still", x.word(0, 1, 4), 2);
    }

    /** a was heard twice, first as 0, last as 1; b as 2 and c as 3; h is 4. */
    private void hearThree() {
        promise(7);
        house(0, "aabc");
        parrots("08");
        x.days(4);
        worths("71100000");
        x.teach(0, 0);
        x.teach(0, 2);
        x.teach(0, 2);
    }

    private void fond(String rule, int a, int c) {
        due("rule " + rule, rule(rule), 0);
        due("fondness of a by " + rule, x.word(0, 0, 4), a);
        due("fondness of c by " + rule, x.word(0, 2, 4), c);
    }

    private void ruleValues() {
        hearThree();
        due("fondness of a by none", x.word(0, 0, 4), 11);
        due("fondness of c by none", x.word(0, 2, 4), 10);
        fond("n", 2, 1);
        fond("f", 0, 3);
        fond("l", 1, 3);
        fond("t", 1, 2);
        fond("w", 0, 2);
        fond("h", 4, 4);
        fond("v", 7, 1);
        fond("-7/2", -3, -3);
        fond("7/f", 0, 2);
        fond("2-3-4", -5, -5);
        fond("9/4/2", 1, 1);
        fond("2+3*4-1", 13, 13);
        fond("(2+3)*4", 20, 20);
        fond("--3---2", 1, 1);
        fond("2*-3", -6, -6);
        fond("-n*-n", 4, 1);
        fond("7*3/2", 10, 10);
        fond("7/2*3", 9, 9);
        fond("n<2", 0, 1);
        fond("n>1", 1, 0);
        fond("n=2", 1, 0);
        fond("1+1=n*1", 1, 0);
        fond("(n<2)+(w=2)*10", 0, 11);
        fond("(n<2)=(w=2)", 1, 1);
        fond("(1<2)<(3<2)", 0, 0);
        fond("((((n))))-((((5))))", -3, -4);
        fond("999*999*999*999", 999 * 999 * 999 * 999, 999 * 999 * 999 * 999);
        fond("-999*999*999*999", -999 * 999 * 999 * 999, -999 * 999 * 999 * 999);
        fond("007+08", 15, 15);
        fond("", 11, 10);
    }

    private void ruleSigns() {
        hearThree();
        due("z", rule("z"), -1);
        due("N", rule("N"), -1);
        due("n+", rule("n+"), -3);
        due("-", rule("-"), -2);
        due("+n", rule("+n"), -1);
        due("*n", rule("*n"), -1);
        due("n**f", rule("n**f"), -3);
        due("n~f", rule("n~f"), -2);
        due("~f", rule("~f"), -1);
        due("n f", rule("n f"), -2);
        due("nf", rule("nf"), -2);
        due("5n", rule("5n"), -2);
        due("n5", rule("n5"), -2);
        due("(5)5", rule("(5)5"), -4);
        due("n(5)", rule("n(5)"), -2);
        due("(n)(f)", rule("(n)(f)"), -4);
        due("()", rule("()"), -2);
        due("n)", rule("n)"), -2);
        due("(n))", rule("(n))"), -4);
        due("(n+)", rule("(n+)"), -4);
        due("(n", rule("(n"), -3);
        due("((n)", rule("((n)"), -5);
        due("n<f<l", rule("n<f<l"), -4);
        due("n<f+1=l", rule("n<f+1=l"), -6);
        due("(n<f>l)", rule("(n<f>l)"), -5);
        due("n<(f<l)<t", rule("n<(f<l)<t"), -8);
        due("n<", rule("n<"), -3);
        due("(((((n", rule("(((((n)))))"), -5);
        due("((((n))))+(((((n", rule("((((n))))+(((((n)))))"), -15);
        due("1000", rule("1000"), -4);
        due("100+1000", rule("100+1000"), -8);
        due("a sign of 0", rule("n" + (char) 0), -2);
        due("a sign above 127", rule("n+" + (char) 200), -3);
        due("fondness of a by none still", x.word(0, 0, 4), 11);
    }

    /** What a refused rule left behind is in no later one. */
    private void ruleBehindRefused() {
        hearThree();
        due("refused", rule("2+-(3*(n<"), -10);
        fond("7", 7, 7);
        due("refused", law("(((n<2)<2"), -10009);
        fond("(n<2)-(n<2)", 0, 0);
        due("12", law("12"), 0);
        fond("3", 3, 3);
    }

    private void ruleLength() {
        hearThree();
        due("40 signs", rule("10" + repeat("+n", 19)), 0);
        due("fondness of a", x.word(0, 0, 4), 48);
        due("41 signs", rule("n" + repeat("+n", 20)), -41);
        due("41 signs, the last no sign", rule("10" + repeat("+n", 19) + "?"), -41);
        due("40 signs that end too early", rule(repeat("n+", 20)), -41);
        due("44 signs, the first 40 end too early", rule(repeat("n+", 20) + "n+n+"), -41);
        due("44 signs, bad ahead", rule("n+n)" + repeat("n+", 20)), -4);
        due("44 signs, bad at the fortieth", rule("n+" + repeat("n+", 18) + "nnnnnn"), -40);
        due("80 signs", rule(repeat("-", 80)), -41);
        due("39 minuses", rule(repeat("-", 39) + "5"), 0);
        due("fondness of a", x.word(0, 0, 4), -5);
    }

    private void parrot() {
        promise(8);
        house(1, "bd");
        parrots("16;03");
        x.days(3);
        x.cloth(1);
        x.speak(0);
        due("house", x.parrot(0, 0), 1);
        due("memory", x.parrot(0, 1), 6);
        due("cloth", x.parrot(0, 2), 0);
        due("cloth", x.parrot(1, 2), 1);
        due("heard", x.parrot(0, 3), 3);
        due("words", x.parrot(0, 4), 2 + 8);
        due("out", x.parrot(0, 5), 1);
        due("out", x.parrot(1, 5), 0);
        due("parrot(2, 0) throws", parrotThrows(2, 0), true);
        due("parrot(-1, 0) throws", parrotThrows(-1, 0), true);
        due("parrot(0, 6) throws", parrotThrows(0, 6), true);
        due("parrot(0, -1) throws", parrotThrows(0, -1), true);
        due("parrot(1, 5) throws", parrotThrows(1, 5), false);
    }

    private void word() {
        promise(9);
        house(0, "abba");
        parrots("08");
        x.days(7);
        x.teach(0, 1);
        int[][] due = {{3, 0, 4, 0, 9}, {4, 1, 6, 1, 16}, {0, -1, -1, 0, 0}};
        for (int w = 0; w < 3; w++) {
            for (int what = 0; what < 5; what++) {
                due("word(0, " + w + ", " + what + ")", x.word(0, w, what), due[w][what]);
            }
        }
        rule("99");
        due("word(0, 2, 4) never heard", x.word(0, 2, 4), 0);
        due("word(1, 0, 0) throws", wordThrows(1, 0, 0), true);
        due("word(-1, 0, 0) throws", wordThrows(-1, 0, 0), true);
        due("word(0, 8, 0) throws", wordThrows(0, 8, 0), true);
        due("word(0, -1, 0) throws", wordThrows(0, -1, 0), true);
        due("word(0, 0, 5) throws", wordThrows(0, 0, 5), true);
        due("word(0, 0, -1) throws", wordThrows(0, 0, -1), true);
        due("word(0, 7, 4) throws", wordThrows(0, 7, 4), false);
    }

    private void said() {
        promise(10);
        house(3, "abc");
        x.days(4);
        due("said(3, 0)", x.said(3, 0), 1);
        due("said(3, 1)", x.said(3, 1), 2);
        due("said(3, 99)", x.said(3, 99), 1);
        due("said(3, 100)", x.said(3, 100), -1);
        due("said(3, -1)", x.said(3, -1), -1);
        due("said(4, 0)", x.said(4, 0), -1);
        due("said(-1, 0)", x.said(-1, 0), -1);
        due("count(1)", x.count(1), 4);
    }

    private void sheet() {
        promise(11);
        house(0, "abc");
        parrots("08");
        x.days(3);
        rule("v");
        due("ints 3, 5", x.sheet(2, 2, 3, 2), 8);
        due("worth of a", x.word(0, 0, 4), 3);
        due("worth of b", x.word(0, 1, 4), 5);
        due("worth of c", x.word(0, 2, 4), 0);
        due("n below 0", x.sheet(0, -1, 1, 1), -2);
        due("n above 8", x.sheet(0, 9, 1, 1), -1);
        due("missing, n above 8", x.sheet(3, 9, 1, 1), -1);
        due("kind 4", x.sheet(4, -1, 1, 1), -1);
        due("kind -1", x.sheet(-1, 2, 1, 1), -1);
        due("worth of b still", x.word(0, 1, 4), 5);
        due("ints put to 9", x.sheet(2, 3, 8, 2), 26);
        due("ints put to 0", x.sheet(2, 3, 1, -1), 1);
        due("ints 260", x.sheet(2, 1, 260, 0), 9);
        due("ints over the highest", x.sheet(2, 2, Integer.MAX_VALUE, 1), 9);
        due("bytes 260", x.sheet(0, 1, 260, 0), 4);
        due("bytes 127, 128", x.sheet(0, 2, 127, 1), 9);
        due("bytes 255", x.sheet(0, 1, 255, 0), 0);
        due("shorts 260", x.sheet(1, 1, 260, 0), 9);
        due("shorts 65537 and on", x.sheet(1, 3, 65537, 1), 6);
        due("shorts 32768", x.sheet(1, 1, 32768, 0), 0);
        due("eight", x.sheet(1, 8, 0, 1), 28);
        due("none", x.sheet(1, 0, 5, 5), 0);
        due("worth of a", x.word(0, 0, 4), 0);
        x.sheet(2, 8, 1, 0);
        due("missing", x.sheet(3, -7, 5, 5), -3);
        due("worth of a", x.word(0, 0, 4), 0);
    }
}
