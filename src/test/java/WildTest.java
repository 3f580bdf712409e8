import java.lang.reflect.InvocationTargetException;
import java.lang.reflect.Method;
import java.lang.reflect.Modifier;
import java.util.ArrayList;
import java.util.Comparator;
import java.util.List;
import java.util.Random;

/** Any arguments in any state, also far behind the 512th call: nothing is thrown, every call ends. */
public final class WildTest {
    private static final int[] ODD = {0, 1, 2, 3, 5, 6, 7, 8, 9, 11, 12, 19, 20, 39, 40, 95, 96, 97, 99, 100,
        1199, 1200, -1, -2, -96, Integer.MAX_VALUE, Integer.MIN_VALUE, Integer.MIN_VALUE + 1, 65536, 1 << 30};

    private WildTest() {
    }

    public static void main(String[] args) throws Exception {
        List<Method> face = new ArrayList<>();
        for (Method m : CelSheet.class.getDeclaredMethods()) {
            if (Modifier.isPublic(m.getModifiers())) {
                face.add(m);
            }
        }
        face.sort(Comparator.comparing(Method::getName));
        for (int run = 0; run < 300; run++) {
            Random dice = new Random(31 * run);
            CelSheet x = new CelSheet();
            int calls = run % 50 == 0 ? 20000 : 700;
            for (int n = 0; n < calls; n++) {
                if (dice.nextInt(60) == 0) {
                    x.end(0);
                    Due.tell(x, dice.nextInt(3) == 0 ? rubbish(dice) : greatest(dice));
                    x.scene();
                }
                Method m = face.get(dice.nextInt(face.size()));
                Object[] a = new Object[m.getParameterCount()];
                for (int i = 0; i < a.length; i++) {
                    a[i] = dice.nextInt(10) == 0 ? dice.nextInt() : ODD[dice.nextInt(dice.nextBoolean() ? 8 : ODD.length)];
                }
                call(run, n, m, x, a);
            }
        }
        Due.end("WildTest");
    }

    private static void call(int run, int n, Method m, CelSheet x, Object[] a) throws IllegalAccessException {
        try {
            m.invoke(x, a);
            Due.due("", 0, 0);
        } catch (InvocationTargetException e) {
            e.getCause().printStackTrace(System.out);
            Due.due("run " + run + ", call " + n + ": " + m.getName() + " " + java.util.Arrays.toString(a), 1, 0);
        }
    }

    private static String rubbish(Random dice) {
        StringBuilder b = new StringBuilder();
        String signs = "abcxyz0123456789 \n;=-()";
        int length = dice.nextInt(1201);
        for (int i = 0; i < length; i++) {
            b.append(dice.nextInt(20) == 0 ? (char) dice.nextInt(256) : signs.charAt(dice.nextInt(signs.length())));
        }
        return b.toString();
    }

    /** A scene with as much of everything as there may be, or nearly so. */
    private static String greatest(Random dice) {
        StringBuilder b = new StringBuilder("frames ").append(dice.nextInt(4) == 0 ? 1 : 96).append(";");
        String[] lines = {"on 1=1-99", "on 24=99-1x96", "on 1=swing(1-99)x96", "on 1=((((swing(1-3)x96)x96)x96)x96)x96",
            "on 1=(1 blank 9)x96 loop", "on 1=blank x96", "on 24=1 stop", "on 1=1 1 1 1 1-2 loop"};
        for (char name = 'a'; name <= 'f'; name++) {
            b.append("layer ").append(name).append(' ').append(lines[dice.nextInt(lines.length)]).append(';');
        }
        for (int i = 0; i < 12; i++) {
            b.append("slide ").append((char) ('a' + dice.nextInt(6))).append(" from0to0");
            b.append(dice.nextBoolean() ? "right9" : "left9").append(dice.nextBoolean() ? "up9;" : "down9;");
        }
        for (int i = 0; i < 40; i++) {
            b.append("cel ").append((char) ('a' + dice.nextInt(6))).append(1 + dice.nextInt(99));
            b.append("at11 7size12 8ink9;");
        }
        if (b.length() > 1200) {
            b.setLength(b.lastIndexOf(";", 1199) + 1);
        }
        return b.toString();
    }
}
