import java.lang.reflect.Modifier;
import java.lang.reflect.Member;
import java.util.ArrayList;
import java.util.Arrays;
import java.util.Collections;
import java.util.List;
import java.util.NoSuchElementException;
import java.util.Random;

/** The face is the document's and no more; no call throws anything but what the document says. */
public final class FaceTest extends Due {
    static final String FACE = "sign end house parrots worths rule parrot word said sheet days move cloth teach"
            + " speak hush trial undo says place soonest unsaid later alters crackers stay hear gain blend source alike"
            + " unlike before forget clash drop counsels sure note strike fits ask rests law years keep again count row";
    private static final int[] EDGES = {Integer.MIN_VALUE, Integer.MIN_VALUE + 10, -101, -100, -2, -1, 0, 1, 2, 3, 4, 5, 6,
        7, 8, 9, 10, 12, 13, 14, 16, 40, 59, 60, 61, 80, 99, 100, 255, 256, Integer.MAX_VALUE - 1, Integer.MAX_VALUE};

    private final Random random = new Random(7);

    private FaceTest() {
        super("FaceTest");
    }

    public static void main(String[] args) {
        FaceTest t = new FaceTest();
        t.face();
        t.wild();
        t.finish();
    }

    private void face() {
        promise(1);
        List<String> methods = new ArrayList<>();
        for (java.lang.reflect.Method m : ParrotsLast.class.getDeclaredMethods()) {
            addOpen(methods, m);
        }
        List<String> want = new ArrayList<>(Arrays.asList(FACE.split(" ")));
        Collections.sort(methods);
        Collections.sort(want);
        due("methods " + methods, methods.equals(want), true);
        List<String> fields = new ArrayList<>();
        for (java.lang.reflect.Field f : ParrotsLast.class.getDeclaredFields()) {
            addOpen(fields, f);
        }
        due("fields " + fields, fields.equals(List.of("NONE")), true);
        due("constructors", ParrotsLast.class.getDeclaredConstructors().length, 1);
        for (Class<?> inside : ParrotsLast.class.getDeclaredClasses()) {
            due(inside + " is static", Modifier.isStatic(inside.getModifiers()), true);
            for (java.lang.reflect.Method m : inside.getDeclaredMethods()) {
                due(inside + "." + m.getName() + " has a name of the face", want.contains(m.getName()), false);
            }
        }
        due("final", Modifier.isFinal(ParrotsLast.class.getModifiers()), true);
    }

    private static void addOpen(List<String> names, Member member) {
        if (!Modifier.isPrivate(member.getModifiers())) {
            names.add(member.getName());
        }
    }

    private void wild() {
        for (int run = 0; run < 300; run++) {
            promise(run);
            for (int call = 0; call < 500; call++) {
                int which = random.nextInt(49);
                try {
                    wildCall(which);
                } catch (NoSuchElementException e) {
                    due("call " + which + " throws", which == 6 || which == 7 || which == 48, true);
                } catch (RuntimeException e) {
                    due("call " + which + " throws " + e, true, false);
                }
            }
        }
    }

    private int any() {
        int r = random.nextInt(10);
        if (r < 6) {
            return random.nextInt(9) - 1;
        }
        return r < 9 ? EDGES[random.nextInt(EDGES.length)] : random.nextInt();
    }

    private void wildText() {
        String signs = random.nextBoolean() ? "abcdefgh" : "dmktsx0123abcnflwhv+-*/<>=();";
        x.end(0);
        int more = random.nextInt(21);
        for (int i = 0; i < more; i++) {
            int v = random.nextInt();
            for (int j = 0; j < 4 && random.nextInt(30) > 0; j++) {
                v = v << 8 | signs.charAt(random.nextInt(signs.length()));
            }
            x.sign(v);
        }
        x.end(random.nextInt(81));
    }

    private void wildCall(int which) {
        if (which >= 2 && which <= 5 || which == 16 || which == 28 || which == 29 || which == 43) {
            wildText();
        }
        int a = any();
        int b = any();
        int c = any();
        switch (which) {
            case 0: x.sign(a); break;
            case 1: x.end(a); break;
            case 2: x.house(a); break;
            case 3: parrotsOrText(); break;
            case 4: x.worths(); break;
            case 5: x.rule(); break;
            case 6: x.parrot(a, b); break;
            case 7: x.word(a, b, c); break;
            case 8: x.said(a, b); break;
            case 9: x.sheet(a, b, c, any()); break;
            case 10: x.days(a); break;
            case 11: x.move(a, b); break;
            case 12: x.cloth(a); break;
            case 13: x.teach(a, b); break;
            case 14: x.speak(a); break;
            case 15: x.hush(); break;
            case 16: x.trial(); break;
            case 17: x.undo(); break;
            case 18: x.says(a); break;
            case 19: x.place(a, b); break;
            case 20: x.soonest(a); break;
            case 21: x.unsaid(); break;
            case 22: x.later(a, b); break;
            case 23: x.alters(a); break;
            case 24: x.crackers(a, b); break;
            case 25: x.stay(a, b, c); break;
            case 26: x.hear(a, b); break;
            case 27: x.gain(a, b); break;
            default: wildCallOn(which, a, b, c);
        }
    }

    private void parrotsOrText() {
        if (random.nextBoolean()) {
            text("" + random.nextInt(4) + (1 + random.nextInt(8)));
        }
        x.parrots();
    }

    private void wildCallOn(int which, int a, int b, int c) {
        switch (which) {
            case 28: x.blend(a, b); break;
            case 29: x.source(); break;
            case 30: x.alike(a, b); break;
            case 31: x.unlike(a, b); break;
            case 32: x.before(a, b); break;
            case 33: x.forget(); break;
            case 34: x.clash(); break;
            case 35: x.drop(); break;
            case 36: x.counsels(a); break;
            case 37: x.sure(a, b, c); break;
            case 38: x.note(a, b); break;
            case 39: x.strike(); break;
            case 40: x.fits(); break;
            case 41: x.ask(); break;
            case 42: x.rests(a); break;
            case 43: x.law(); break;
            case 44: x.years(a, b); break;
            case 45: x.keep(a); break;
            case 46: x.again(a); break;
            case 47: x.count(a); break;
            default: x.row(a);
        }
    }
}
