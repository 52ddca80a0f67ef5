/** Edges of promises 47 to 50: kept. */
public final class KeptEdgesTest extends Edges {
    private KeptEdgesTest() {
        super("KeptEdgesTest", 47, 50);
    }

    public static void main(String[] args) {
        KeptEdgesTest t = new KeptEdgesTest();
        t.keep();
        t.again();
        t.againRefused();
        t.count();
        t.row();
        t.finish();
    }

    private void keep() {
        sentence(47, "What undo() brings back is kept under a number 0 .. 1: true.");
        due("keep(0), without parrots", x.keep(0), true);
        due("keep(1), without parrots", x.keep(1), true);
        x.days(3);
        due("again(1)", x.again(1), true);
        due("the day", x.count(1), 0);
        parrots("08");
        due("keep(0)", x.keep(0), true);
        x.days(1);
        due("keep(1)", x.keep(1), true);
        x.days(1);
        due("keep(1) in place of it", x.keep(1), true);
        due("what can be undone stays", x.count(6), 2);
        x.days(1);
        due("again(1)", x.again(1), true);
        due("the day", x.count(1), 2);
        due("again(0)", x.again(0), true);
        due("the day", x.count(1), 0);

        sentence(47, "Refused: others.");
        parrots("08");
        for (int i : outside(1)) {
            due("keep(" + i + ")", x.keep(i), false);
        }
        due("again(0)", x.again(0), false);
        due("again(1)", x.again(1), false);
    }

    private void again() {
        sentence(48, "It is as it was kept under a number.");
        house(0, "ab");
        house(1, "cd");
        parrots("08;08");
        trial("d2t0bs0k1");
        x.keep(0);
        trial("m01d3t0cs0k1x");
        house(0, "h");
        rule("w");
        worths("99999999");
        x.before(0, 1);
        x.note(0, 0);
        due("again(0)", x.again(0), true);
        due("the day", x.count(1), 2);
        due("house", x.parrot(0, 0), 0);
        due("memory", x.parrot(0, 1), 8);
        due("cloth", x.parrot(1, 2), 1);
        due("heard", x.parrot(0, 3), 2);
        due("words", x.parrot(0, 4), 3);
        due("out", x.parrot(0, 5), 1);
        due("b often", x.word(0, 1, 0), 1);
        due("b first", x.word(0, 1, 1), 1);
        due("b last", x.word(0, 1, 2), 1);
        due("b taught", x.word(0, 1, 3), 1);
        due("c taught", x.word(0, 2, 3), 0);
        due("heard by 1", x.parrot(1, 3), 3);
        due("nothing can be undone", x.undo(), -1);
        due("a house is not brought back", x.said(0, 0), 7);
        due("THE RULE is not brought back", x.word(0, 1, 4), 1);
        due("tellings are not brought back", x.count(4), 1);
        due("notes are not brought back", x.count(5), 1);
        x.days(1);
        due("again, once more", x.again(0), true);
        due("the day", x.count(1), 2);
        x.days(1);
        x.undo();
        due("undo() does not take it away", x.again(0), true);
    }

    private void againRefused() {
        sentence(48, "Refused: nothing kept");
        parrots("08");
        x.days(1);
        due("again(0)", x.again(0), false);
        due("again(1)", x.again(1), false);
        x.keep(1);
        due("again(0)", x.again(0), false);
        for (int i : outside(1)) {
            due("again(" + i + ")", x.again(i), false);
        }
        due("what can be undone stays", x.count(6), 1);
        due("again(1)", x.again(1), true);

        sentence(48, "PARROTS came since.");
        x.keep(0);
        parrots("08");
        due("a first one came", x.again(0), false);
        x.keep(0);
        due("an empty text", parrots(""), 0);
        due("none came", x.again(0), true);
        due("a bad text", parrots("09"), -2);
        due("none came", x.again(0), true);
        parrots("08");
        x.days(1);
        x.keep(1);
        due("one came behind 0", x.again(0), false);
        due("none came behind 1", x.again(1), true);
        x.days(1);
        parrots("01;01;01;01");
        due("four came behind 1", x.again(1), false);
        due("the day", x.count(1), 2);
        due("no room for one more", parrots("01"), -1);
        x.keep(0);
        x.days(1);
        due("none came behind 0", x.again(0), true);
        due("the day", x.count(1), 2);
        due("six", x.count(0), 6);
    }

    private void count() {
        sentence(49, "What 0: PARROTS, 1: DAY, 2: those under a CLOTH (bits), 3: those that said something aloud (bits), "
                + "4: tellings, 5: notes, 6: what can be undone, 7: numbers of the ROW, 8: signs of THE TEXT");
        for (int what = 0; what <= 8; what++) {
            due("at first, count(" + what + ")", x.count(what), 0);
        }
        parrots("08;08;08;08;08;08");
        x.days(60);
        for (int p = 0; p < 6; p++) {
            x.speak(p);
            x.cloth(p);
        }
        for (int i = 0; i < 13; i++) {
            x.before(0, 1);
            x.note(0, 0);
        }
        x.days(0);
        text(repeat("a", 80));
        int[] most = {6, 60, 63, 63, 12, 12, 12, 6, 80};
        for (int what = 0; what <= 8; what++) {
            due("then, count(" + what + ")", x.count(what), most[what]);
        }

        sentence(49, "10 .. 13: WORDS of THE ROW of HOUSE 0 .. 3.");
        for (int h = 0; h < 4; h++) {
            due("at first, count(1" + h + ")", x.count(10 + h), 1);
            house(h, repeat("a", 16 - h));
            due("then, count(1" + h + ")", x.count(10 + h), 16 - h);
        }

        sentence(49, "-100 for another what.");
        for (int what : outside(13)) {
            due("count(" + what + ")", x.count(what), -100);
        }
        due("count(9)", x.count(9), -100);
    }

    private void row() {
        sentence(50, "Number i of the ROW.");
        hearAll();
        x.says(0);
        for (int i = 0; i < 8; i++) {
            due("row(" + i + ")", x.row(i), i);
        }
        x.sure(0, 9, 1);
        due("row(1), the greatest there is", x.row(1), 100000000);
        x.counsels(0);
        due("a fresh parrot", parrots("08"), 1);
        x.counsels(1);
        due("row(0), NONE", x.row(0), -1);

        sentence(50, "NoSuchElementException: none such.");
        for (int i : outside(0)) {
            due("at first, row(" + i + ") throws", rowThrows(i), true);
        }
        due("at first, row(0) throws", rowThrows(0), true);
        x.unsaid();
        due("of one, row(0) throws", rowThrows(0), false);
        due("of one, row(1) throws", rowThrows(1), true);
        due("of one, row(-1) throws", rowThrows(-1), true);
        hearAll();
        x.says(0);
        due("of eight, row(7) throws", rowThrows(7), false);
        due("of eight, row(8) throws", rowThrows(8), true);
        x.rests(9);
        due("of two, row(2) throws, though there were eight", rowThrows(2), true);
        parrots("08");
        x.says(1);
        due("of none, row(0) throws", rowThrows(0), true);
    }
}
