import java.lang.reflect.InvocationTargetException;
import java.lang.reflect.Method;
import java.lang.reflect.Modifier;
import java.util.ArrayList;
import java.util.List;

/** Every call with every mix of odd numbers, on an empty, a middling and a full atlas: none throws, and a finding changes nothing. */
public final class WrongInputsTest {
    private static final Check CHECK = new Check();
    private static final int[] ODD = {Integer.MIN_VALUE, -129, -2, -1, 0, 1, 2, 8, 12, 21, 31, 300, Integer.MAX_VALUE};
    private static final int CALLS = 400;

    private DialectAtlas atlas;
    private int calls;
    private final int fullness;

    private WrongInputsTest(int fullness) {
        this.fullness = fullness;
    }

    public static void main(String[] args) throws ReflectiveOperationException {
        for (int fullness = 0; fullness < 3; fullness++) {
            for (Method m : DialectAtlas.class.getDeclaredMethods()) {
                if (Modifier.isPublic(m.getModifiers())) {
                    new WrongInputsTest(fullness).callAll(m);
                }
            }
        }
        CHECK.end();
    }

    private void callAll(Method m) throws ReflectiveOperationException {
        int mixes = 1;
        for (int i = 0; i < m.getParameterCount(); i++) {
            mixes *= ODD.length;
        }
        // Five numbers have too many mixes: every ninth of them is enough.
        int step = mixes > 100000 ? 9 : 1;
        for (int mix = 0; mix < mixes; mix += step) {
            if (atlas == null || calls > CALLS) {
                atlas = filled(fullness);
                calls = 0;
            }
            calls += 1;
            callOnce(m, mix);
        }
    }

    private void callOnce(Method m, int mix) throws ReflectiveOperationException {
        Object[] args = new Object[m.getParameterCount()];
        int rest = mix;
        for (int i = 0; i < args.length; i++) {
            int odd = ODD[rest % ODD.length];
            rest /= ODD.length;
            args[i] = m.getParameterTypes()[i] == long.class ? (Object) (odd * 0x1_0000_0001L) : (Object) odd;
        }
        List<Integer> before = state();
        int findings = atlas.count(8);
        try {
            int answer = (Integer) m.invoke(atlas, args);
            boolean isFinding = answer < -99999;
            CHECK.due("35: findings behind " + m.getName(), findings + (isFinding ? 1 : 0), atlas.count(8));
            if (isFinding) {
                CHECK.holds(m.getName() + " answered a finding, " + answer + ", and changed nothing", before.equals(state()));
            }
        } catch (InvocationTargetException thrown) {
            CHECK.holds(m.getName() + " threw " + thrown.getCause() + "; that it ends", false);
        }
    }

    /** What questions that cost little tell of the state, without a finding. */
    private List<Integer> state() {
        List<Integer> list = new ArrayList<>();
        for (int what = 0; what < 8; what++) {
            list.add(atlas.count(what));
        }
        for (int t = 0; t < 4; t++) {
            list.add(atlas.changes(t));
        }
        for (int a = 0; a < atlas.count(4); a++) {
            for (int what = 0; what < 5; what++) {
                list.add(atlas.answerIs(a, what));
            }
        }
        for (int f = 0; f < atlas.count(3); f++) {
            list.add(atlas.sound(f, 0));
        }
        list.add(atlas.spread((1 << atlas.count(0)) / 2, 3));
        return list;
    }

    private static DialectAtlas filled(int fullness) {
        DialectAtlas x = new DialectAtlas();
        int villages = fullness * 6;
        for (int v = 0; v < villages; v++) {
            x.village(817 * v, 999 - 80 * v);
            if (v > 0) {
                x.road(v / 2, v, 5 + v);
            }
        }
        for (int f = 0; f < 15 * fullness; f++) {
            x.form(1 + f % 8, 0x0001_0203_0405_0607L + f);
        }
        for (int i = 0; i < 10 * fullness; i++) {
            x.asked(i % villages, i % 4, 1 + i % 9);
        }
        for (int i = 0; i < 30 * fullness; i++) {
            x.answer(i % (10 * fullness), i % 6, i % x.count(3));
        }
        for (int s = 0; s < fullness; s++) {
            x.sheet(s, 8 << s, 6 * fullness);
            Check.text(x, s, "a>b/*_*;c>0/#_d;");
        }
        for (int i = 0; i < fullness * 5; i++) {
            x.feed(8, -1L);
        }
        x.day(fullness * 300);
        return x;
    }
}
