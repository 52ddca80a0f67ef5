/** Promises 47 to 50: kept. */
public final class KeptTest extends Due {
    private KeptTest() {
        super("KeptTest");
    }

    public static void main(String[] args) {
        KeptTest t = new KeptTest();
        t.keep();
        t.again();
        t.count();
        t.row();
        t.finish();
    }

    private void keep() {
        promise(47);
        due("keep(2)", x.keep(2), false);
        due("keep(-1)", x.keep(-1), false);
        due("keep(0)", x.keep(0), true);
        parrots("08");
        due("keep(1)", x.keep(1), true);
        x.days(3);
        due("keep(1) once more", x.keep(1), true);
        x.days(2);
        due("again(1)", x.again(1), true);
        due("the latest", x.count(1), 3);
    }

    private void again() {
        promise(48);
        house(0, "ab");
        parrots("08;08");
        due("nothing kept", x.again(0), false);
        x.days(1);
        x.keep(0);
        due("nothing kept under 1", x.again(1), false);
        due("again(2)", x.again(2), false);
        due("again(-1)", x.again(-1), false);
        house(1, "c");
        x.move(0, 1);
        x.days(3);
        x.cloth(1);
        x.teach(0, 2);
        x.speak(0);
        x.keep(1);
        due("again(0)", x.again(0), true);
        due("house", x.parrot(0, 0), 0);
        due("heard", x.parrot(0, 3), 1);
        due("words", x.parrot(0, 4), 1);
        due("out", x.parrot(0, 5), 0);
        due("cloth", x.parrot(1, 2), 0);
        due("taught", x.word(0, 2, 3), 0);
        due("day", x.count(1), 1);
        due("nothing can be undone", x.count(6), 0);
        due("a house is not kept", x.said(1, 0), 2);
        due("again(1)", x.again(1), true);
        due("day", x.count(1), 4);
        due("out", x.parrot(0, 5), 1);
        due("taught", x.word(0, 2, 3), 1);
        due("cloth", x.parrot(1, 2), 1);
        parrots("");
        due("an empty parrots()", x.again(0), true);
        x.days(1);
        parrots("33");
        due("parrots came since", x.again(0), false);
        due("parrots came since", x.again(1), false);
        due("day", x.count(1), 2);
        x.keep(0);
        due("again(0)", x.again(0), true);
    }

    private void count() {
        promise(49);
        house(0, "ab");
        house(3, "abcde");
        parrots("08;08;18");
        x.days(2);
        x.cloth(1);
        x.speak(2);
        x.before(0, 1);
        x.before(0, 2);
        x.note(0, 0);
        x.says(0);
        x.sign(0);
        int[] due = {3, 2, 2, 4, 2, 1, 3, 2, 4, -100, 2, 1, 1, 5, -100};
        for (int what = 0; what < due.length; what++) {
            due("count(" + what + ")", x.count(what), due[what]);
        }
        due("count(-1)", x.count(-1), -100);
        due("count(Integer.MIN_VALUE)", x.count(Integer.MIN_VALUE), -100);
        due("count(Integer.MAX_VALUE)", x.count(Integer.MAX_VALUE), -100);
    }

    private void row() {
        promise(50);
        due("row(0) throws", rowThrows(0), true);
        x.rests(9);
        due("row(0)", x.row(0), 1);
        due("row(1)", x.row(1), 1);
        due("row(2) throws", rowThrows(2), true);
        due("row(-1) throws", rowThrows(-1), true);
        due("row(Integer.MAX_VALUE) throws", rowThrows(Integer.MAX_VALUE), true);
        x.unsaid();
        due("row(1) throws", rowThrows(1), true);
        due("row(0)", x.row(0), 255);
        house(0, "abcdefgh");
        parrots("08");
        x.days(8);
        x.says(0);
        due("row(7)", x.row(7), 7);
        due("row(8) throws", rowThrows(8), true);
    }
}
