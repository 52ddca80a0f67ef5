/** Promises 30 to 37: rows of words; what was before what. */
public final class RowsTest extends Due {
    private RowsTest() {
        super("RowsTest");
    }

    public static void main(String[] args) {
        RowsTest t = new RowsTest();
        t.blend();
        t.source();
        t.alike();
        t.alikeOfMore();
        t.unlike();
        t.before();
        t.forget();
        t.clash();
        t.drop();
        t.finish();
    }

    private void blend() {
        promise(30);
        house(0, "abcab");
        house(1, "bdb");
        house(2, repeat("a", 16));
        house(3, repeat("a", 8));
        due("abd", blend(0, 1, "abd"), 1);
        row(1);
        due("abd the other way", blend(1, 0, "abd"), 1);
        row(2);
        due("nothing", blend(2, 3, ""), 1);
        row(0);
        due("all of both", blend(0, 1, "abbdcabb"), 1);
        row(5);
        due("not over again", blend(0, 1, "abcabbdba"), 0);
        due("not from the middle", blend(0, 1, "ca"), 0);
        due("not left out", blend(0, 1, "ac"), 0);
        row(5);
        due("the fewest", blend(2, 3, repeat("a", 16)), 1);
        row(8);
        due("the fewest", blend(3, 2, repeat("a", 16)), 1);
        row(0);
        due("i", blend(0, 1, "abi"), -3);
        due("17", blend(2, 3, repeat("a", 17)), -17);
        due("17, the last no word", blend(2, 3, repeat("a", 16) + "?"), -17);
        due("like ones", blend(1, 1, "?"), -100);
        due("blend(4, 0)", blend(4, 0, "a"), -100);
        due("blend(0, 4)", blend(0, 4, "a"), -100);
        due("blend(-1, 0)", blend(-1, 0, "a"), -100);
        row(0);
    }

    private void source() {
        promise(31);
        house(0, "ab");
        house(1, "cd");
        house(2, "cde");
        house(3, "abb");
        due("nothing", source(""), 1);
        row(6);
        due("abcd", source("acbd"), 1);
        row(4);
        due("cdcd", source("cdcd"), 12);
        row(1);
        due("cde", source("acdeb"), 2);
        row(2);
        due("abb", source("babab".substring(1)), 3);
        row(1);
        due("of none", source("ee"), -200);
        row(1);
        due("z", source("abz"), -3);
        due("17", source(repeat("a", 17)), -17);
        house(2, "ddd");
        house(3, "hh");
        due("dh", source("hdhdd"), 23);
        row(1);
    }

    private void alike() {
        promise(32);
        house(0, "abcd");
        house(1, "cdab");
        house(2, "dcba");
        house(3, "hg");
        parrots("08;18;28;38;02");
        due("nothing yet", x.alike(0, 1), 0);
        row();
        x.days(4);
        due("the least of two rows", x.alike(0, 1), 2);
        row(0, 1);
        due("likewise", x.alike(1, 0), 2);
        row(0, 1);
        due("turned about", x.alike(0, 2), 1);
        row(0);
        due("cb, ca, db, da", x.alike(1, 2), 2);
        row(2, 0);
        due("none", x.alike(0, 3), 0);
        row();
        due("within the memory", x.alike(4, 0), 2);
        row(0, 1);
        due("alike(0, 0)", x.alike(0, 0), -1);
        due("alike(0, 5)", x.alike(0, 5), -1);
        due("alike(5, 0)", x.alike(5, 0), -1);
        due("alike(-1, 0)", x.alike(-1, 0), -1);
        due("alike(0, -1)", x.alike(0, -1), -1);
        row(0, 1);
    }

    private void alikeOfMore() {
        promise(32);
        house(0, "bcad");
        house(1, "adbc");
        house(2, "abcdefgh");
        house(3, "hbgdfcea");
        parrots("08;18;28;38;28");
        x.days(8);
        due("ad, bc", x.alike(0, 1), 2);
        row(0, 3);
        due("ad, bc", x.alike(1, 0), 2);
        row(0, 3);
        due("all", x.alike(2, 4), 8);
        row(0, 1, 2, 3, 4, 5, 6, 7);
        due("bce, bde, bdf", x.alike(2, 3), 3);
        row(1, 2, 4);
        due("likewise", x.alike(3, 2), 3);
        row(1, 2, 4);
    }

    private void unlike() {
        promise(33);
        house(0, "abcd");
        house(1, "cdab");
        house(2, "dcba");
        house(3, "ag");
        parrots("08;18;28;38;02");
        x.days(4);
        due("unlike(0, 1)", x.unlike(0, 1), 4);
        row(4);
        due("unlike(0, 2)", x.unlike(0, 2), 6);
        row(4);
        due("unlike(1, 2)", x.unlike(2, 1), 2);
        row(4);
        due("unlike(0, 3)", x.unlike(0, 3), 0);
        row(1);
        due("unlike(4, 2)", x.unlike(4, 2), 1);
        row(2);
        due("unlike(0, 0)", x.unlike(0, 0), -1);
        due("unlike(0, 5)", x.unlike(0, 5), -1);
        due("unlike(-1, 5)", x.unlike(-1, 5), -1);
        row(2);
    }

    private void before() {
        promise(34);
        due("before(8, 0)", x.before(8, 0), -1);
        due("before(0, 8)", x.before(0, 8), -1);
        due("before(-1, 0)", x.before(-1, 0), -1);
        due("before(0, -1)", x.before(0, -1), -1);
        due("before(3, 3)", x.before(3, 3), -1);
        for (int i = 1; i <= 12; i++) {
            due("before(0, 7)", x.before(0, 7), i);
        }
        due("a thirteenth", x.before(0, 7), -1);
        due("count(4)", x.count(4), 12);
    }

    private void forget() {
        promise(35);
        due("forget()", x.forget(), 0);
        x.before(0, 1);
        x.before(1, 0);
        due("forget()", x.forget(), 2);
        due("count(4)", x.count(4), 0);
        due("clash()", x.clash(), -2);
        x.before(5, 6);
        due("drop()", x.drop(), 0);
    }

    private void clash() {
        promise(36);
        x.unsaid();
        due("none", x.clash(), -2);
        tell("ab bc cd ac ad");
        due("no ring", x.clash(), -2);
        row(255);
        tell("hg gh");
        due("two", x.clash(), 2);
        row(6, 7);
        tell("cb ba ac");
        due("three, from the least on", x.clash(), 3);
        row(0, 2, 1);
        tell("ab bc ca ef fe");
        due("the shortest", x.clash(), 2);
        row(4, 5);
        tell("ad dc ca ab bh ha");
        due("the least row", x.clash(), 3);
        row(0, 1, 7);
        tell("bc cd db ac ab");
        due("a ring off the first word", x.clash(), 3);
        row(1, 2, 3);
        tell("ah hg gf fe ed dc cb ba");
        due("eight", x.clash(), 8);
        row(0, 7, 6, 5, 4, 3, 2, 1);
    }

    private void drop() {
        promise(37);
        due("none", x.drop(), 0);
        row(0);
        tell("ab bc ac");
        due("none clash", x.drop(), 0);
        row(0);
        tell("cd ab ba");
        due("of as few the least", x.drop(), 1);
        row(2);
        tell("ab ba ab");
        due("rather one than two", x.drop(), 1);
        row(2);
        tell("ab bc ca ba cb");
        due("two", x.drop(), 2);
        row(1 + 2);
        tell("ab bc ca bd da");
        due("one for two rings", x.drop(), 1);
        row(1);
        tell("ca bc da bd ab");
        due("one for two rings, the last", x.drop(), 1);
        row(16);
        tell("ab ba cd dc ef fe gh hg ac ca bd db");
        due("six of twelve", x.drop(), 6);
        row(1 + 4 + 16 + 64 + 256 + 1024);
        tell("ab ab ab ba ba");
        due("the ones on one side", x.drop(), 2);
        row(8 + 16);
    }
}
