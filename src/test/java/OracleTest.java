import java.lang.reflect.Method;
import java.lang.reflect.Modifier;
import java.nio.charset.StandardCharsets;
import java.util.ArrayList;
import java.util.Comparator;
import java.util.List;
import java.util.Random;

/** Runs of chance calls, the same every time, on CelSheet and on the plain NaiveSheet. */
public final class OracleTest {
    private static final int RUNS = 600;
    private static final int CALLS = 512;
    private static final int TEXTS = 30000;
    private static Random dice;
    private static CelSheet x;
    private static NaiveSheet y;
    // Calls that x has had: what it answers behind the 512th is not promised.
    private static int used;

    private OracleTest() {
    }

    public static void main(String[] args) throws Exception {
        for (int run = 0; run < RUNS; run++) {
            dice = new Random(7000 + run);
            calls(run);
        }
        renew();
        for (int n = 0; n < TEXTS; n++) {
            dice = new Random(90000 + n);
            text(n % 3 == 0 ? broken(sceneText(n % 40 == 0)) : words());
        }
        Due.end("OracleTest");
    }

    private static void renew() {
        x = new CelSheet();
        y = new NaiveSheet();
        used = 0;
    }

    /** The calls that telling a text takes: feeds, end, a look at the tape and scene. */
    private static int callsToTell(String text) {
        return (text.length() + 19) / 20 + 3;
    }

    private static void tell(String text) {
        used += callsToTell(text);
        feed(y, text);
        Due.tell(x, text);
        Due.due("scene() of: " + text, x.scene(), y.scene());
    }

    private static void text(String text) {
        if (used + callsToTell(text) + 2 > CALLS) {
            renew();
        }
        tell(text);
        Due.due("fault(0) of: " + text, x.fault(0), y.fault(0));
        Due.due("fault(1) of: " + text, x.fault(1), y.fault(1));
        used += 2;
        int layers = y.look(1);
        for (int l = 0; l < layers; l++) {
            if (used + y.look(0) > CALLS) {
                renew();
                tell(text);
            }
            for (int f = 0; f < y.look(0); f++) {
                Due.due("told(" + l + ", " + f + ") of: " + text, x.told(l, f), y.told(l, f));
                used++;
            }
        }
    }

    private static void feed(NaiveSheet y, String text) {
        byte[] bytes = text.getBytes(StandardCharsets.ISO_8859_1);
        int ahead = y.look(6);
        for (int i = 0; i < bytes.length; i += 20) {
            int[] n = new int[5];
            for (int k = 0; k < 20; k++) {
                n[k / 4] = n[k / 4] << 8 | (i + k < bytes.length ? bytes[i + k] & 255 : 32);
            }
            if (y.feed(n[0], n[1], n[2], n[3], n[4]) == NaiveSheet.NONE) {
                return;
            }
        }
        y.end(ahead + bytes.length);
    }

    private static void calls(int run) throws Exception {
        renew();
        List<Method> face = new ArrayList<>();
        for (Method m : CelSheet.class.getDeclaredMethods()) {
            if (Modifier.isPublic(m.getModifiers())) {
                face.add(m);
            }
        }
        face.sort(Comparator.comparing(Method::getName));
        String text = sceneText(run % 8 == 0);
        int ahead = dice.nextInt(4);
        for (int n = 0; used < CALLS; n++) {
            if (n == ahead || dice.nextInt(120) == 0) {
                if (dice.nextInt(3) == 0) {
                    text = sceneText(run % 8 == 0);
                }
                String told = dice.nextInt(4) == 0 && n != ahead ? broken(text) : text;
                if (used + callsToTell(told) > CALLS) {
                    return;
                }
                tell(told);
                continue;
            }
            Method m = face.get(dice.nextInt(face.size()));
            if (m.getName().equals("scene") || m.getName().equals("back") && dice.nextInt(4) != 0) {
                continue;
            }
            Object[] a = new Object[m.getParameterCount()];
            StringBuilder told = new StringBuilder("run " + run + ", call " + n + ": " + m.getName() + "(");
            for (int i = 0; i < a.length; i++) {
                a[i] = argument(m.getName(), i, y);
                told.append(i == 0 ? "" : ", ").append(a[i]);
            }
            used++;
            Object want = NaiveSheet.class.getMethod(m.getName(), m.getParameterTypes()).invoke(y, a);
            Due.due(told + ") of: " + text, number(m.invoke(x, a)), number(want));
        }
    }

    private static long number(Object answer) {
        return answer instanceof Boolean ? ((Boolean) answer ? 1 : 0) : (Integer) answer;
    }

    private static int argument(String call, int i, NaiveSheet y) {
        if (call.equals("feed")) {
            return dice.nextInt(3) == 0 ? 0x20202061 + dice.nextInt(4) : 0x20202020;
        }
        if (dice.nextInt(40) == 0) {
            int[] odd = {-1, -2, 99, 100, 96, 97, 6, 12, 8, Integer.MIN_VALUE, Integer.MAX_VALUE, 1000000};
            return odd[dice.nextInt(odd.length)];
        }
        int layers = Math.max(1, y.look(1));
        int frames = Math.max(1, y.look(0));
        switch (call + i) {
            case "end0": return dice.nextInt(41);
            case "fault0": return dice.nextInt(3);
            case "look0": return dice.nextInt(8);
            case "box0": return dice.nextInt(y.look(2) + 1);
            case "layer1": case "box1": return dice.nextInt(8);
            case "spelt1": return dice.nextInt(8) - 1;
            case "find1": return dice.nextInt(7);
            case "find2": return dice.nextInt(6);
            case "hold2": case "cycle1": case "saved0": return dice.nextInt(5);
            case "shift2": case "like1": case "still0": case "best1": return dice.nextInt(3);
            case "doubled1": return dice.nextInt(4);
            case "cell1": case "top1": return dice.nextInt(13);
            case "cell2": case "top2": return dice.nextInt(9);
            case "ink1": return dice.nextInt(11);
            case "take0": return dice.nextInt(frames + 1) - 1;
            case "expose3": return dice.nextInt(6);
            case "push2": case "pull2": return dice.nextInt(dice.nextInt(3) == 0 ? frames + 2 : 5);
            case "keep0": case "back0": case "apart0": return dice.nextInt(3);
            case "expose1": case "expose2": case "at1": case "told1": case "hold1": case "shift1":
            case "hidden1": case "cell0": case "top0": case "ink0": case "seen1": case "same0":
            case "same1": case "like0": case "changes0": case "turned1": case "push1": case "pull1":
            case "turn1":
                return dice.nextInt(frames);
            default: return dice.nextInt(layers);
        }
    }

    // ---- texts

    static String sceneText(boolean large) {
        StringBuilder b = new StringBuilder();
        int frames = large ? 96 - dice.nextInt(3) * 8 : 1 + dice.nextInt(dice.nextInt(3) == 0 ? 40 : 14);
        b.append("frames ").append(frames).append(";");
        int layers = 1 + dice.nextInt(dice.nextInt(3) == 0 ? 6 : 3);
        int slides = 0;
        int hides = 0;
        for (int l = 0; l < layers; l++) {
            b.append(space()).append("layer ").append(name(l)).append(" on ").append(1 + dice.nextInt(3));
            b.append(space()).append('=').append(space());
            line(b, 0, 1 + dice.nextInt(3));
            String[] endings = {"", "", " loop", " stop"};
            b.append(endings[dice.nextInt(4)]).append(";");
            int boxes = dice.nextInt(large ? 10 : 5);
            for (int i = 0; i < boxes; i++) {
                b.append("cel ").append(name(dice.nextInt(l + 1))).append(" ").append(drawing());
                b.append(" at ").append(dice.nextInt(12)).append(" ").append(dice.nextInt(8));
                b.append(" size ").append(1 + dice.nextInt(12)).append(" ").append(1 + dice.nextInt(8));
                b.append(" ink ").append(1 + dice.nextInt(9)).append(";");
            }
            if (dice.nextInt(3) == 0 && slides++ < 12) {
                b.append("slide ").append(name(dice.nextInt(l + 1)));
                span(b, frames);
                b.append(dice.nextBoolean() ? "right " : "left ").append(dice.nextInt(3));
                b.append(dice.nextBoolean() ? " down " : " up ").append(dice.nextInt(3)).append(";");
            }
            if (dice.nextInt(3) == 0 && hides++ < 12) {
                b.append("hide ").append(name(dice.nextInt(l + 1)));
                span(b, frames);
                b.append(";");
            }
        }
        return b.length() > 1200 ? "frames 3; layer a on 1 = 1-3;" : b.toString();
    }

    private static void span(StringBuilder b, int frames) {
        int from = dice.nextInt(frames);
        b.append(" from ").append(from).append(" to ").append(from + dice.nextInt(frames - from)).append(" ");
    }

    private static String name(int l) {
        return new String[] {"a", "bg", "arms", "eyes", "legs", "mouth"}[l];
    }

    private static int drawing() {
        return dice.nextInt(30) == 0 ? 1 + dice.nextInt(99) : 1 + dice.nextInt(5);
    }

    private static String space() {
        return new String[] {"", " ", "  ", "\n"}[dice.nextInt(4)];
    }

    private static void line(StringBuilder b, int open, int parts) {
        for (int i = 0; i < parts; i++) {
            b.append(i == 0 ? "" : " ");
            int kind = dice.nextInt(open < 3 ? 8 : 6);
            if (kind == 0) {
                b.append("blank");
            } else if (kind < 4) {
                b.append(drawing());
            } else if (kind < 6) {
                b.append(drawing()).append(space()).append('-').append(space()).append(drawing());
            } else {
                b.append(kind == 6 ? "swing" : "").append(space()).append('(');
                line(b, open + 1, 1 + dice.nextInt(3));
                b.append(')');
            }
            if (dice.nextInt(3) == 0) {
                b.append(space()).append("x").append(space()).append(1 + dice.nextInt(3));
            }
        }
    }

    /** A text with a few places that are others. */
    private static String broken(String text) {
        StringBuilder b = new StringBuilder(text);
        int changes = 1 + dice.nextInt(2);
        for (int i = 0; i < changes && b.length() > 0; i++) {
            int p = dice.nextInt(b.length());
            String sign = String.valueOf("azx059;=-() \n\u00e9A".charAt(dice.nextInt(15)));
            switch (dice.nextInt(4)) {
                case 0: b.deleteCharAt(p); break;
                case 1: b.insert(p, sign); break;
                case 2: b.setCharAt(p, sign.charAt(0)); break;
                default: b.setLength(p);
            }
        }
        return b.toString();
    }

    /** Words of the language that stand together as they like. */
    private static String words() {
        String[] starts = {"frames 8;", "frames 8; layer a on 1 = 1 2;", "frames 8; layer a on 1 =",
            "frames 8; layer a on 2 = 1; cel a", "frames 8; layer a on 2 = 1; slide a from",
            "frames 8; layer a on 2 = (((((1)))))", ""};
        String[] words = {"frames", "layer", "on", "loop", "stop", "cel", "at", "size", "ink", "slide",
            "from", "to", "right", "left", "down", "up", "hide", "blank", "swing", "x", "a", "b", "abcdef",
            "abcdefg", "0", "1", "3", "7", "8", "9", "12", "24", "25", "96", "97", "99", "100", "1000",
            ";", "=", "-", "(", ")", "(", ")", "x", ";", "1", "2"};
        StringBuilder b = new StringBuilder(starts[dice.nextInt(starts.length)]);
        int n = dice.nextInt(8);
        for (int i = 0; i < n; i++) {
            b.append(dice.nextInt(5) == 0 ? "" : " ").append(words[dice.nextInt(words.length)]);
        }
        if (dice.nextInt(3) == 0) {
            b.append(";");
        }
        if (dice.nextInt(2) == 0) {
            b.append(" layer b on 1 = 1;");
        }
        return b.toString();
    }
}
