/** The terms: what there is at first, how far it goes, how a rule is read. */
public final class TermsEdgesTest extends Edges {
    private TermsEdgesTest() {
        super("TermsEdgesTest", TERMS, TERMS);
    }

    public static void main(String[] args) {
        TermsEdgesTest t = new TermsEdgesTest();
        t.words();
        t.houses();
        t.parrotsAtFirst();
        t.parrotsAsText();
        t.hears();
        t.ruleLength();
        t.ruleOrder();
        t.ruleThings();
        t.ruleInts();
        t.whatItSays();
        t.day();
        t.numbers();
        t.finish();
    }

    private void words() {
        sentence(TERMS, "WORDS 0 .. 7 (written a .. h)");
        due("house", house(0, "ah"), 2);
        due("a", x.said(0, 0), 0);
        due("h", x.said(0, 1), 7);
        due("the sign ahead of a", house(0, "`"), -1);
        due("the sign behind h", house(0, "i"), -1);
        due("soonest(0)", x.soonest(0), -2);
        due("soonest(7)", x.soonest(7), -2);
        for (int w : outside(7)) {
            due("soonest(" + w + ")", x.soonest(w), -1);
        }

        sentence(TERMS, "each with a WORTH 0 .. 9 (at first 1)");
        hearAll();
        sayWorths(1, 1, 1, 1, 1, 1, 1, 1);
        due("none is worth anything", worths("00000000"), 0);
        sayWorths(0, 0, 0, 0, 0, 0, 0, 0);
        due("all are worth the most", worths("99999999"), 72);
        sayWorths(9, 9, 9, 9, 9, 9, 9, 9);

        sentence(TERMS, "WORTHS are told by a text of eight digits");
        due("seven", worths("1234567"), -8);
        due("eight", worths("12345678"), 36);
        due("nine", worths("123456789"), -9);
    }

    private void houses() {
        sentence(TERMS, "HOUSES 0 .. 3");
        for (int h = 0; h < 4; h++) {
            due("said(" + h + ", 0)", x.said(h, 0), 0);
        }
        for (int h : outside(3)) {
            due("said(" + h + ", 0)", x.said(h, 0), -1);
        }

        sentence(TERMS, "A ROW of 1 to 16 WORDS (at first a)");
        for (int h = 0; h < 4; h++) {
            due("words of house " + h, x.count(10 + h), 1);
            due("said(" + h + ", 99)", x.said(h, 99), 0);
        }
        due("none", house(0, ""), -1);
        due("1", house(0, "b"), 1);
        due("16", house(0, repeat("b", 16)), 16);
        due("17", house(0, repeat("b", 17)), -17);
        due("words of house 0", x.count(10), 16);

        sentence(TERMS, "on DAY n (its number, at first 0) the WORD at n by how many there are (rest) is said there");
        due("the day", x.count(1), 0);
        house(2, "bcd");
        house(3, "bcdefghabcdefgha");
        due("the first", x.said(2, 0), 1);
        due("the last", x.said(2, 2), 3);
        due("the first again", x.said(2, 3), 1);
        due("the last of sixteen", x.said(3, 15), 0);
        due("the first of sixteen again", x.said(3, 16), 1);
        x.days(2);
        due("the last, on day 2", x.said(2, 0), 3);
        due("the first again, on day 3", x.said(2, 1), 1);
        due("day 101", x.said(2, 99), 3);
        house(2, "ef");
        due("another row, by the same day", x.said(2, 0), 4);
    }

    private void parrotsAtFirst() {
        sentence(TERMS, "PARROTS 0 .. (at most 6)");
        due("six", parrots("01;01;01;01;01;01"), 6);
        due("a seventh", parrots("01"), -1);
        due("the first throws", parrotThrows(0, 0), false);
        due("the last throws", parrotThrows(5, 0), false);
        due("a seventh throws", parrotThrows(6, 0), true);

        sentence(TERMS, "a HOUSE, a MEMORY 1 .. 8");
        due("1 and 8", parrots("01;38"), 2);
        due("0", parrots("00"), -2);
        due("9", parrots("09"), -2);
        due("memory 1", x.parrot(0, 1), 1);
        due("memory 8", x.parrot(1, 1), 8);
        due("house 0", x.parrot(0, 0), 0);
        due("house 3", x.parrot(1, 0), 3);

        sentence(TERMS, "under a CLOTH or not (at first not)");
        parrots("01");
        due("cloth", x.parrot(0, 2), 0);
        due("count(2)", x.count(2), 0);

        sentence(TERMS, "HEARD (how many words it heard, at first 0)");
        x.days(3);
        parrots("01");
        due("behind three days without it", x.parrot(0, 3), 0);
        due("words", x.parrot(0, 4), 0);

        sentence(TERMS, "how often it heard it, as which it heard it first and last (0 on; at first never)");
        parrots("01");
        due("how often", x.word(0, 0, 0), 0);
        due("first", x.word(0, 0, 1), -1);
        due("last", x.word(0, 0, 2), -1);
        x.days(1);
        due("first", x.word(0, 0, 1), 0);
        due("last", x.word(0, 0, 2), 0);

        sentence(TERMS, "how often it was TAUGHT it by a cracker (0 .. 99)");
        parrots("01");
        x.days(1);
        due("at first", x.word(0, 0, 3), 0);
        for (int i = 1; i <= 100; i++) {
            x.teach(0, 0);
        }
        due("behind 100", x.word(0, 0, 3), 99);

        sentence(TERMS, "OUT: how many words it has said aloud (at first 0)");
        parrots("01");
        due("out", x.parrot(0, 5), 0);
        due("count(3)", x.count(3), 0);
    }

    private void parrotsAsText() {
        sentence(TERMS, "They are told by a text of at most 17 signs");
        due("18", parrots("01;01;01;01;01;01;"), -18);
        due("17", parrots("01;01;01;01;01;01"), 6);

        sentence(TERMS, "LINES with ; between, each one more: a digit 0 .. 3 (HOUSE), a digit 1 .. 8 (MEMORY)");
        due("two", parrots("01;38"), 2);
        due("one more", parrots("12"), 1);
        due("count(0)", x.count(0), 3);
        due("the first stays", x.parrot(0, 1), 1);
        due("the last one came last", x.parrot(2, 1), 2);
        due("the sign ahead of 0", parrots("/1"), -1);
        due("the sign behind 3", parrots("41"), -1);
        due("the sign ahead of 1", parrots("00"), -2);
        due("the sign behind 8", parrots("09"), -2);
        due("no ; between", parrots("0101"), -3);
    }

    private void hears() {
        sentence(TERMS, "it was heard once more, as the one by the number HEARD; HEARD is 1 more");
        house(0, "ba");
        parrots("08");
        x.days(3);
        due("b: how often", x.word(0, 1, 0), 2);
        due("b: first", x.word(0, 1, 1), 0);
        due("b: last", x.word(0, 1, 2), 2);
        due("a: first", x.word(0, 0, 1), 1);
        due("a: last", x.word(0, 0, 2), 1);
        due("heard", x.parrot(0, 3), 3);

        sentence(TERMS, "(9999 at most: it hears nothing then)");
        parrots("08");
        for (int i = 0; i < 166; i++) {
            x.days(60);
        }
        x.days(38);
        due("heard", x.parrot(0, 3), 9998);
        house(0, "b");
        x.days(1);
        due("heard", x.parrot(0, 3), 9999);
        due("b: first", x.word(0, 1, 1), 9998);
        house(0, "c");
        due("the day goes on", x.days(1), 10000);
        row(0);
        due("heard", x.parrot(0, 3), 9999);
        due("c: how often", x.word(0, 2, 0), 0);
        house(0, "b");
        x.days(60);
        due("b: how often", x.word(0, 1, 0), 1);
        due("b: last", x.word(0, 1, 2), 9998);
    }

    /** a was heard as 0 and 1, b as 2. */
    private void hearTwo() {
        house(0, "aab");
        parrots("08");
        x.days(3);
    }

    private void fond(String rule, int a, int b) {
        due("rule " + rule, rule(rule), 0);
        due("fondness of a by " + rule, x.word(0, 0, 4), a);
        due("fondness of b by " + rule, x.word(0, 1, 4), b);
    }

    private void fond(String rule, int both) {
        fond(rule, both, both);
    }

    private void ruleLength() {
        sentence(TERMS, "THE RULE is a text of at most 40 signs (at first none: n*3-f+t*5)");
        hearTwo();
        due("none: a", x.word(0, 0, 4), 6);
        due("none: b", x.word(0, 1, 4), 1);
        x.teach(0, 1);
        due("none: b", x.word(0, 1, 4), 6);
        fond("n*3-f+t*5", 6, 6);
        fond("7", 7);
        fond("", 6, 6);
        due("40 signs that end too early", rule(repeat("(n)*", 9) + "(n)+"), -41);
        fond("10" + repeat("+1", 19), 29);
        due("41 signs", rule("1" + repeat("+1", 20)), -41);
        due("fondness of a still", x.word(0, 0, 4), 29);
    }

    private void ruleOrder() {
        sentence(TERMS, "< > = bind least (two; 1 or 0; not one behind the other)");
        hearTwo();
        fond("1+1<3", 1);
        fond("3<1+1", 0);
        fond("3>1+1", 1);
        fond("2*3=6", 1);
        fond("1<1", 0);
        fond("1>1", 0);
        fond("1=2", 0);
        fond("-1<0", 1);
        fond("(1<2)<2", 1);
        fond("2<(1<2)", 0);
        fond("(1<2)=(2>1)", 1);
        due("1<2<3", rule("1<2<3"), -4);
        due("1=1=1", rule("1=1=1"), -4);
        due("1>0=1", rule("1>0=1"), -4);
        due("1<2+3<9", rule("1<2+3<9"), -6);
        due("(1<2<3)", rule("(1<2<3)"), -5);
        due("1<(2<3)<4", rule("1<(2<3)<4"), -8);
        due("one alone", rule("1<"), -3);
        due("one alone", rule("<1"), -1);

        sentence(TERMS, "then + - (from the left)");
        hearTwo();
        fond("5-3-1", 1);
        fond("5-3+1", 3);
        fond("5-(3+1)", 1);

        sentence(TERMS, "then * / (from the left; by 0: 0; cut to 0)");
        hearTwo();
        fond("8/2*3", 12);
        fond("8/(2*3)", 1);
        fond("9/2/2", 2);
        fond("2+8/2", 6);
        fond("7/0", 0);
        fond("0/0", 0);
        fond("5-7/0", 5);
        fond("7/0+1", 1);
        fond("7/f", 0, 3);
        fond("-7/2", -3);
        fond("7/-2", -3);
        fond("-7/-2", 3);
        fond("1/2", 0);
        fond("-1/2", 0);

        sentence(TERMS, "then - ahead of a thing (any many)");
        hearTwo();
        fond("-3", -3);
        fond("--3", 3);
        fond("2--3", 5);
        fond("2---3", -1);
        fond("-(2+1)*2", -6);
        fond("2*--3", 6);
        fond("-2*-3", 6);
        fond("-n+n", 0);
        fond(repeat("-", 39) + "5", -5);
        fond(repeat("-", 38) + "5", 5);
        due("40 minuses", rule(repeat("-", 40)), -41);
        due("a minus without a thing", rule("n-"), -3);
        due("a minus ahead of a join", rule("-+n"), -2);
    }

    private void ruleThings() {
        sentence(TERMS, "things: a NUMBER of 1 to 3 digits");
        hearTwo();
        fond("0", 0);
        fond("999", 999);
        fond("000", 0);
        fond("010", 10);
        due("four", rule("1000"), -4);
        due("four of 0", rule("0000"), -4);
        due("four, the second number", rule("1+0001"), -6);
        due("a digit behind a letter", rule("n5"), -2);
        due("a digit behind brackets", rule("(5)5"), -4);
        due("a letter behind a digit", rule("5n"), -2);

        sentence(TERMS, "an EXPRESSION in ( ) (at most 4 in one another)");
        hearTwo();
        fond("((((7))))", 7);
        fond("((((1))))+((((2))))", 3);
        fond("-(-(-(-7)))", 7);
        due("five", rule("(((((7)))))"), -5);
        due("five behind four", rule("((((1))))+(((((2)))))"), -15);
        due("none in it", rule("()"), -2);
        due("not closed", rule("(7"), -3);
        due("closed twice", rule("(7))"), -4);

        sentence(TERMS, "n how often, f as which first, l as which last, t how often TAUGHT, w the WORD (0 .. 7), h HEARD, v its WORTH");
        hearTwo();
        x.teach(0, 1);
        worths("90000000");
        fond("n", 2, 1);
        fond("f", 0, 2);
        fond("l", 1, 2);
        fond("t", 0, 1);
        fond("w", 0, 1);
        fond("h", 3);
        fond("v", 9, 0);
        due("another letter", rule("a"), -1);
        due("a great one", rule("N"), -1);
        house(0, "h");
        x.days(1);
        rule("w");
        due("w of h", x.word(0, 7, 4), 7);

        sentence(TERMS, "of a parrot and a WORD that it heard");
        hearTwo();
        rule("5");
        due("never heard", x.word(0, 2, 4), 0);
        due("not said", x.says(0), 2);
    }

    private void ruleInts() {
        sentence(TERMS, "As ints: FONDNESS");
        hearTwo();
        fond("999*999*999*999", -426416671);
        fond("512*512*512*16", Integer.MIN_VALUE);
        fond("-(512*512*512*16)", Integer.MIN_VALUE);
        fond("512*512*512*16-1", Integer.MAX_VALUE);
        fond("512*512*512*16/-1", Integer.MIN_VALUE);
        fond("512*512*512*16-1<512*512*512*16", 0);
        rule("512*512*512*16-w");
        x.says(0);
        row(1, 0);
    }

    private void whatItSays() {
        sentence(TERMS, "the one with the most FONDNESS first (of like ones the lesser WORD first), as many as MEMORY at most");
        house(0, "hgfedcba");
        parrots("08;01;07");
        x.days(8);
        due("says(0)", x.says(0), 8);
        row(7, 6, 5, 4, 3, 2, 1, 0);
        rule("0");
        due("like ones", x.says(0), 8);
        row(0, 1, 2, 3, 4, 5, 6, 7);
        due("a memory of 1", x.says(1), 1);
        row(0);
        due("a memory of 7", x.says(2), 7);
        row(0, 1, 2, 3, 4, 5, 6);
        rule("-(w/2)");
        x.says(0);
        row(0, 1, 2, 3, 4, 5, 6, 7);
        rule("w/2");
        x.says(0);
        row(6, 7, 4, 5, 2, 3, 0, 1);

        sentence(TERMS, "WHAT IT SAYS: the WORDS that it heard");
        house(0, "ca");
        parrots("08");
        due("none heard", x.says(0), 0);
        row();
        x.days(1);
        due("one heard", x.says(0), 1);
        row(2);
    }

    private void day() {
        sentence(TERMS, "each parrot without a CLOTH HEARS the WORD that is said in its HOUSE on this DAY; DAY is 1 more");
        house(0, "ab");
        house(1, "cd");
        parrots("08;18;08");
        x.cloth(2);
        x.days(1);
        due("the day", x.count(1), 1);
        due("0 heard", x.parrot(0, 4), 1);
        due("1 heard", x.parrot(1, 4), 4);
        due("2 heard", x.parrot(2, 4), 0);
        x.move(0, 1);
        x.days(1);
        due("0 heard, moved", x.parrot(0, 4), 1 + 8);
    }

    private void numbers() {
        sentence(TERMS, "Rows of numbers are compared from the first on.");
        house(0, "bcad");
        house(1, "adbc");
        parrots("08;18");
        x.days(4);
        due("ad rather than bc", x.alike(0, 1), 2);
        row(0, 3);

        sentence(TERMS, "Sets (of WORDS, PARROTS) are bits.");
        due("all words", x.unsaid(), 255);
        parrots("08;08;08;08;08;08");
        due("all parrots", x.fits(), 63);
        x.cloth(5);
        due("the last", x.count(2), 32);
        house(0, "h");
        x.days(1);
        due("the last word", x.parrot(0, 4), 128);

        sentence(TERMS, "Fractions are told in lowest terms, upper and lower number (0 by 1).");
        hearAll();
        x.sure(0, 0, 1);
        row(0, 1);
        x.sure(0, 10, 8);
        row(1, 1);
        x.sure(0, 5, 8);
        row(1, 256);
        x.sure(0, 1, 8);
        row(1, 100000000);

        sentence(TERMS, "ROW: numbers told last by a call that says so.");
        new Twins(this).rowStays();

        sentence(TERMS, "Questions change nothing.");
        new Twins(this).questions();

        sentence(TERMS, "Refused calls answer NONE, or false, and change nothing but THE TEXT, which a call that reads it empties.");
        new Twins(this).refused();
    }
}
