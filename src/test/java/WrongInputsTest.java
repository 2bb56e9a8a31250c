import java.lang.reflect.InvocationTargetException;
import java.lang.reflect.Method;
import java.lang.reflect.Modifier;

/** Every call with every mix of odd numbers, on an empty, a middling and a full atlas: none throws, and findings are counted. */
public final class WrongInputsTest {
    private static final Check CHECK = new Check();
    private static final int[] ODD = {Integer.MIN_VALUE, -129, -2, -1, 0, 1, 2, 8, 12, 21, 31, 300, Integer.MAX_VALUE};
    /** With those that fill an atlas these stay below the 512 calls of an object. */
    private static final int CALLS = 250;

    private final int fullness;
    private DialectAtlas atlas;
    private int calls;
    private int findings;

    private WrongInputsTest(int fullness) {
        this.fullness = fullness;
        begin();
    }

    public static void main(String[] args) throws ReflectiveOperationException {
        for (int fullness = 0; fullness < 3; fullness++) {
            for (Method m : DialectAtlas.class.getDeclaredMethods()) {
                if (Modifier.isPublic(m.getModifiers())) {
                    new WrongInputsTest(fullness).callAll(m);
                }
            }
        }
        CHECK.end();
    }

    private void begin() {
        atlas = filled(fullness);
        calls = 0;
        findings = 0;
    }

    private void callAll(Method m) throws ReflectiveOperationException {
        int mixes = 1;
        for (int i = 0; i < m.getParameterCount(); i++) {
            mixes *= ODD.length;
        }
        for (int mix = 0; mix < mixes; mix++) {
            if (calls == CALLS) {
                end(m);
                begin();
            }
            calls++;
            callOnce(m, mix);
        }
        end(m);
    }

    private void end(Method m) {
        CHECK.due("promise 35: findings of " + m.getName(), findings, atlas.count(8));
    }

    private void callOnce(Method m, int mix) throws ReflectiveOperationException {
        Object[] args = new Object[m.getParameterCount()];
        int rest = mix;
        for (int i = 0; i < args.length; i++) {
            int odd = ODD[rest % ODD.length];
            rest /= ODD.length;
            args[i] = m.getParameterTypes()[i] == long.class ? (Object) (odd * 0x1_0000_0001L) : (Object) odd;
        }
        try {
            int answer = (Integer) m.invoke(atlas, args);
            findings += answer < -99999 ? 1 : 0;
        } catch (InvocationTargetException thrown) {
            CHECK.holds(m.getName() + " threw " + thrown.getCause() + "; that it ends", false);
        }
    }

    private static DialectAtlas filled(int fullness) {
        DialectAtlas x = new DialectAtlas();
        int villages = fullness * 6;
        for (int v = 0; v < villages; v++) {
            x.village(817 * v, 999 - 80 * v);
            if (v > 0) {
                x.road(v / 2, v, 5 + v);
            }
        }
        Given.forms(x, 15 * fullness);
        for (int i = 0; i < 10 * fullness; i++) {
            x.asked(i % villages, i % 4, 1 + i % 9);
        }
        for (int i = 0; i < 30 * fullness; i++) {
            x.answer(i % (10 * fullness), i % 6, i % (15 * fullness));
        }
        for (int s = 0; s < fullness; s++) {
            x.sheet(s, 8 << s, 6 * fullness);
            Given.text(x, s, "a>b/*_*;c>0/#_d;");
        }
        for (int i = 0; i < fullness * 5; i++) {
            x.feed(8, -1L);
        }
        x.day(fullness * 300);
        return x;
    }
}
