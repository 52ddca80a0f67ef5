/** Promises 20 to 29: what they say; crackers, hearings. */
public final class SayingTest extends Due {
    private SayingTest() {
        super("SayingTest");
    }

    public static void main(String[] args) {
        SayingTest t = new SayingTest();
        t.says();
        t.place();
        t.soonest();
        t.unsaid();
        t.later();
        t.alters();
        t.crackers();
        t.stay();
        t.hear();
        t.gain();
        t.finish();
    }

    private void says() {
        promise(20);
        house(0, "hgaab");
        parrots("08;03;18");
        due("nothing yet", x.says(0), 0);
        row();
        x.cloth(2);
        x.days(5);
        due("says(0)", x.says(0), 4);
        row(0, 7, 6, 1);
        due("says(1)", x.says(1), 3);
        row(0, 7, 6);
        due("says(2)", x.says(2), 0);
        row();
        rule("5");
        x.says(0);
        row(0, 1, 6, 7);
        rule("-n");
        x.says(0);
        row(1, 6, 7, 0);
        rule("f*999*999*999");
        x.says(0);
        long[] order = {7, 6, 1, 0};
        int[] first = {0, 1, 4, 2};
        java.util.List<Integer> places = new java.util.ArrayList<>(java.util.List.of(0, 1, 2, 3));
        places.sort((i, j) -> Integer.compare(first[j] * 999 * 999 * 999, first[i] * 999 * 999 * 999));
        row(order[places.get(0)], order[places.get(1)], order[places.get(2)], order[places.get(3)]);
        due("says(3)", x.says(3), -1);
        due("says(-1)", x.says(-1), -1);
        due("the ROW stays", x.count(7), 4);
    }

    private void place() {
        promise(21);
        house(0, "cab");
        parrots("02");
        due("nothing yet", x.place(0, 2), -2);
        x.days(3);
        due("place(0, 2)", x.place(0, 2), 0);
        due("place(0, 0)", x.place(0, 0), 1);
        due("beyond its memory", x.place(0, 1), -2);
        due("never heard", x.place(0, 7), -2);
        due("place(0, 8)", x.place(0, 8), -1);
        due("place(0, -1)", x.place(0, -1), -1);
        due("place(1, 0)", x.place(1, 0), -1);
        due("place(-1, 0)", x.place(-1, 0), -1);
    }

    private void soonest() {
        promise(22);
        house(0, "abc");
        house(1, "bca");
        house(2, "bac");
        parrots("08;18;28;02");
        x.days(3);
        due("soonest(1)", x.soonest(1), 1);
        row(0, 4);
        due("soonest(2)", x.soonest(2), 1);
        row(1, 3);
        due("soonest(0)", x.soonest(0), 0);
        row(0, 4);
        due("none says it", x.soonest(7), -2);
        due("soonest(8)", x.soonest(8), -1);
        due("soonest(-1)", x.soonest(-1), -1);
        row(0, 4);
    }

    private void unsaid() {
        promise(23);
        due("without parrots", x.unsaid(), 255);
        row(255);
        house(0, "abc");
        house(1, "h");
        parrots("02;18");
        due("nothing yet", x.unsaid(), 255);
        x.days(3);
        due("unsaid()", x.unsaid(), 255 - 1 - 2 - 128);
        row(255 - 1 - 2 - 4 - 128);
    }

    private void later() {
        promise(24);
        house(0, "abb");
        house(1, "c");
        parrots("08;11");
        x.days(1);
        due("later(0, 0)", x.later(0, 0), 1);
        row(0);
        due("later(0, 1)", x.later(0, 1), 2);
        row(0, 1);
        due("later(0, 2)", x.later(0, 2), 2);
        row(1, 0);
        due("later(0, 60)", x.later(0, 60), 2);
        row(1, 0);
        due("nothing changes", x.parrot(0, 3), 1);
        due("day", x.count(1), 1);
        due("later(0, 61)", x.later(0, 61), -1);
        due("later(0, -1)", x.later(0, -1), -1);
        due("later(2, 1)", x.later(2, 1), -1);
        due("later(-1, 1)", x.later(-1, 1), -1);
        row(1, 0);
        x.cloth(0);
        due("under a cloth", x.later(0, 60), 1);
        row(0);
        x.cloth(0);
        rule("h*w-h*3");
        due("h of then", x.later(0, 1), 2);
        row(1, 0);
    }

    private void alters() {
        promise(25);
        house(0, "aabb" + repeat("b", 8) + "c");
        parrots("08;01;18");
        due("the first word", x.alters(0), 1);
        row(0, 0);
        x.days(1);
        due("one more word", x.alters(0), 2);
        row(1, 1);
        due("another first word, by a memory of 1", x.alters(1), 4);
        row(0, 1);
        due("not in 60", x.alters(2), -2);
        row(0, 1);
        due("alters(3)", x.alters(3), -1);
        due("alters(-1)", x.alters(-1), -1);
        x.cloth(0);
        due("under a cloth", x.alters(0), -2);
        due("nothing changes", x.parrot(1, 3), 1);
        x.cloth(0);
        x.move(2, 3);
        house(3, repeat("a", 15) + "b");
        due("a day of 60", x.alters(2), 15);
        row(1, 1);
        farAlters();
    }

    /** b comes first by h = 60 and by h = 61. */
    private void farAlters() {
        promise(25);
        house(0, "ab");
        parrots("08");
        x.days(2);
        rule("(h>61)*w");
        due("in 60", x.alters(0), 60);
        row(0, 1);
        rule("(h>62)*w");
        due("in 61", x.alters(0), -2);
        row(0, 1);
    }

    private void crackers() {
        promise(26);
        house(0, "aaaaab");
        parrots("01");
        due("never heard", x.crackers(0, 1), -2);
        x.days(6);
        due("crackers(0, 0)", x.crackers(0, 0), 0);
        due("15 against -2", x.crackers(0, 1), 4);
        due("nothing changes", x.word(0, 1, 3), 0);
        due("never heard", x.crackers(0, 2), -2);
        due("crackers(0, 8)", x.crackers(0, 8), -1);
        due("crackers(0, -1)", x.crackers(0, -1), -1);
        due("crackers(1, 0)", x.crackers(1, 0), -1);
        due("crackers(-1, 0)", x.crackers(-1, 0), -1);
        rule("t*w+(w=0)*39");
        due("like ones: the lesser first", x.crackers(0, 1), 40);
        rule("t*w+(w=0)*40");
        due("not by 40", x.crackers(0, 1), -2);
        rule("-t");
        due("by none", x.crackers(0, 1), -2);
        rule("(t=7)*w");
        due("by 7", x.crackers(0, 1), 7);
        x.teach(0, 1);
        due("by 6 more", x.crackers(0, 1), 6);
        rule("(t>98)*w");
        for (int i = 1; i < 60; i++) {
            x.teach(0, 1);
        }
        due("60 and 39", x.crackers(0, 1), 39);
        rule("(t>99)*w");
        due("99 at most", x.crackers(0, 1), -2);
    }

    private void stay() {
        promise(27);
        house(0, "a");
        house(1, "bbc");
        parrots("08");
        due("nothing yet", x.stay(0, 0, 0), 1);
        due("b from the first day on", x.stay(0, 1, 1), 1);
        x.days(2);
        due("already", x.stay(0, 1, 0), 0);
        due("6 against 3, 6, 9", x.stay(0, 1, 1), 6);
        due("never first", x.stay(0, 1, 2), -2);
        house(2, "hbbcg");
        due("c, g, h", x.stay(0, 2, 6), -2);
        rule("(l=h-1)*9");
        due("the last one: b on day 2", x.stay(0, 2, 1), 1);
        due("the last one: c on day 3", x.stay(0, 2, 2), 2);
        due("the last one: g on day 4", x.stay(0, 2, 6), 3);
        due("the last one: h on day 5", x.stay(0, 2, 7), 4);
        rule("");
        due("never said there", x.stay(0, 0, 1), -2);
        due("nothing changes", x.parrot(0, 0), 0);
        due("stay(0, 4, 0)", x.stay(0, 4, 0), -1);
        due("stay(0, -1, 0)", x.stay(0, -1, 0), -1);
        due("stay(0, 0, 8)", x.stay(0, 0, 8), -1);
        due("stay(0, 0, -1)", x.stay(0, 0, -1), -1);
        due("stay(1, 0, 0)", x.stay(1, 0, 0), -1);
        due("stay(-1, 0, 0)", x.stay(-1, 0, 0), -1);
        x.cloth(0);
        due("without its cloth", x.stay(0, 1, 1), 6);
        due("its cloth stays", x.parrot(0, 2), 1);
        rule("(h>61)*w");
        due("in 60", x.stay(0, 1, 2), 60);
        rule("(h>62)*w");
        due("not in 60", x.stay(0, 1, 2), -2);
    }

    private void hear() {
        promise(28);
        due("none of none", x.hear(0, 8), 0);
        row(0);
        due("one of none", x.hear(1, 8), -2);
        house(0, "abc");
        house(1, "cd");
        house(2, "abd");
        parrots("08;18;28;01");
        x.days(4);
        due("hear(0, 1)", x.hear(0, 1), 0);
        row(0);
        due("a", x.hear(1, 8), 1);
        row(1);
        due("d among the first", x.hear(8, 8), 1);
        row(2);
        due("c first", x.hear(4, 1), 1);
        row(2);
        due("d first", x.hear(8, 1), -2);
        due("a, b, c, d", x.hear(15, 8), 2);
        row(3);
        due("a, c, d of two", x.hear(13, 2), 2);
        row(3);
        due("a, c of one", x.hear(5, 1), 2);
        row(3);
        due("a, b, d", x.hear(11, 3), 1);
        row(4);
        due("never heard", x.hear(16, 8), -2);
        row(4);
        due("hear(-1, 1)", x.hear(-1, 1), -1);
        due("hear(255, 8)", x.hear(255, 8), -2);
        due("hear(256, 1)", x.hear(256, 1), -1);
        due("hear(1, 0)", x.hear(1, 0), -1);
        due("hear(1, 9)", x.hear(1, 9), -1);
        row(4);
        hearSix();
    }

    /** Each of six parrots has heard another word. */
    private void hearSix() {
        promise(28);
        parrots("08;08;08;08;08;08");
        for (int p = 0; p < 6; p++) {
            x.cloth(p);
        }
        for (int p = 0; p < 6; p++) {
            house(0, "abcdef".substring(p, p + 1));
            x.cloth(p);
            x.days(1);
            x.cloth(p);
        }
        due("six", x.hear(63, 1), 6);
        row(63);
        due("five", x.hear(62, 1), 5);
        row(62);
        due("one more than there is", x.hear(127, 1), -2);
    }

    private void gain() {
        promise(29);
        house(0, "abc");
        house(1, "cba");
        parrots("08;18;38");
        x.days(3);
        worths("12500000");
        due("gain(0, 0)", x.gain(0, 0), 0);
        row(0, 0);
        due("gain(0, 1)", x.gain(0, 1), 1);
        row(1, 5);
        due("gain(1, 2)", x.gain(1, 2), 7);
        row(1, 7);
        due("gain(1, 3)", x.gain(1, 3), 8);
        row(0, 8);
        due("gain(2, 8)", x.gain(2, 8), 1);
        row(0, 8);
        due("gain(0, 9)", x.gain(0, 9), -1);
        due("gain(0, -1)", x.gain(0, -1), -1);
        due("gain(3, 0)", x.gain(3, 0), -1);
        due("gain(-1, 0)", x.gain(-1, 0), -1);
        row(0, 8);
    }
}
