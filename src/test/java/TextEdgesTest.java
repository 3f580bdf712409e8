import java.util.ArrayList;
import java.util.Arrays;
import java.util.List;

/** Promises 1 to 6 at their edges: a new object, the tape, texts and their faults, names. */
public final class TextEdgesTest {
    private static final int NONE = Edge.NONE;
    private static final int[] ODD = {Edge.MIN, -2, -1, 0, 1, 2, 5, 6, 95, 96, Edge.MAX};
    private static final int BLANKS = 0x20202020;
    private static final String A = "frames 8;layer a on 1=1;";
    private static final List<String> WORDS = Arrays.asList("frames", "layer", "on", "loop", "stop", "cel",
            "at", "size", "ink", "slide", "from", "to", "right", "left", "down", "up", "hide", "blank", "swing", "x");

    private TextEdgesTest() {
    }

    private static void due(String what, int got, int want) {
        Due.due(what, got, want);
    }

    public static void main(String[] args) {
        newObject();
        newObjectIsAlone();
        feed();
        fedBytes();
        refusedFeed();
        end();
        blanks();
        blanksBetweenAll();
        names();
        numbers();
        spans();
        absent();
        firstStatement();
        doubled();
        whatFollows();
        whatFollowsInLines();
        oneTooMany();
        parts();
        openBrackets();
        lastStatement();
        firstFault();
        length();
        scene();
        fault();
        named();
        lineEnds();
        holds();
        rounds();
        swings();
        manyCalls();
        Due.end("TextEdgesTest");
    }

    // ---- promise 1

    private static void newObject() {
        for (int a : ODD) {
            CelSheet x = new CelSheet();
            due("new look(" + a + ")", x.look(a), a >= 0 && a <= 6 ? 0 : NONE);
            due("new fault(" + a + ")", x.fault(a), a == 0 ? 0 : NONE);
            due("new take(" + a + ")", x.take(a), a == NONE ? 0 : NONE);
            due("new marks(" + a + ")", x.marks(a), NONE);
            due("new still(" + a + ")", x.still(a), NONE);
            due("new changes(" + a + ")", x.changes(a), NONE);
            due("new saved(" + a + ")", x.saved(a), NONE);
            due("new without(" + a + ")", x.without(a), NONE);
            due("new raise(" + a + ")", x.raise(a), -2);
            due("new twos(" + a + ")", x.twos(a), -2);
            int kept = a == 0 || a == 1 ? -3 : -2;
            due("new keep(" + a + ")", x.keep(a), kept);
            due("new back(" + a + ")", x.back(a), kept);
            due("new apart(" + a + ")", x.apart(a), kept);
            for (int b : ODD) {
                newObject(x, a, b);
            }
        }
        due("new named()", new CelSheet().named(), NONE);
        due("new undo()", new CelSheet().undo(), -3);
        due("new scene()", new CelSheet().scene(), NONE);
        Due.due("new end(0)", new CelSheet().end(0), true);
        Due.due("new end(1)", new CelSheet().end(1), false);
    }

    private static void newObject(CelSheet x, int a, int b) {
        String of = "(" + a + ", " + b + ", ..) of a new object";
        due("layer" + of, x.layer(a, b), NONE);
        due("spelt" + of, x.spelt(a, b), NONE);
        due("box" + of, x.box(a, b), NONE);
        due("at" + of, x.at(a, b), NONE);
        due("told" + of, x.told(a, b), NONE);
        due("hold" + of, x.hold(a, b, 0), NONE);
        due("find" + of, x.find(a, b, 0), NONE);
        due("cycle" + of, x.cycle(a, b), NONE);
        due("shift" + of, x.shift(a, b, 0), Edge.NOTHING);
        due("hidden" + of, x.hidden(a, b), NONE);
        due("cell" + of, x.cell(a, b, 0), NONE);
        due("top" + of, x.top(a, b, 0), NONE);
        due("ink" + of, x.ink(a, b), NONE);
        due("seen" + of, x.seen(a, b), NONE);
        due("same" + of, x.same(a, b), NONE);
        due("like" + of, x.like(a, b), NONE);
        due("turned" + of, x.turned(a, b), NONE);
        due("best" + of, x.best(a, b), NONE);
        due("doubled" + of, x.doubled(a, b), NONE);
        due("expose" + of, x.expose(a, b, b, 1), -2);
        due("push" + of, x.push(a, b, 1), -2);
        due("pull" + of, x.pull(a, b, 1), -2);
        due("turn" + of, x.turn(a, b), -2);
    }

    private static void newObjectIsAlone() {
        CelSheet other = Due.sheet(Edge.FULL);
        other.turn(0, 1);
        other.keep(0);
        Due.tell(other, "a");
        newObject();
        CelSheet x = Due.sheet(Edge.LEAST);
        due("layers of the other", other.look(1), 6);
        due("layers of the one", x.look(1), 1);
        due("nothing is kept in the one", x.apart(0), -3);
        due("nothing can be undone in the one", x.undo(), -3);
        due("the other's drawing", other.at(0, 0), 2);
        due("the other's tape", other.named(), 0);
    }

    // ---- promises 2 and 3

    /** A sound text, with blanks behind it up to so many bytes. */
    private static String padded(String text, int length) {
        return text + " ".repeat(length - text.length());
    }

    private static void feed() {
        CelSheet x = new CelSheet();
        for (int n = 20; n <= 1200; n += 20) {
            due("feed to " + n, x.feed(BLANKS, BLANKS, BLANKS, BLANKS, BLANKS), n);
            due("look(6) of " + n, x.look(6), n);
        }
        due("feed behind 1200", x.feed(BLANKS, BLANKS, BLANKS, BLANKS, BLANKS), NONE);
        for (int length : new int[] {0, 1, 19, 1160, 1179, 1180}) {
            x = new CelSheet();
            Due.tell(x, " ".repeat(length));
            due("feed behind " + length, x.feed(BLANKS, BLANKS, BLANKS, BLANKS, BLANKS), length + 20);
            due("look(6) behind it", x.look(6), length + 20);
        }
        // What comes, comes behind: the first fault is the first of its twenty bytes.
        x = new CelSheet();
        Due.tell(x, padded(Edge.LEAST, 1180));
        x.feed(0x3b202020, BLANKS, BLANKS, BLANKS, BLANKS);
        due("scene() with ';' at 1180", x.scene(), NONE);
        due("its place", x.fault(1), 1180);
        x = new CelSheet();
        Due.tell(x, padded(Edge.LEAST, 1180));
        x.feed(BLANKS, BLANKS, BLANKS, BLANKS, 0x2020203b);
        due("scene() with ';' at 1199", x.scene(), NONE);
        due("its place", x.fault(1), 1199);
    }

    private static void fedBytes() {
        for (int i = 0; i < 20; i++) {
            int[] n = {BLANKS, BLANKS, BLANKS, BLANKS, BLANKS};
            // A blank and this one: a sign that stands nowhere.
            n[i / 4] = BLANKS ^ 1 << 24 - i % 4 * 8;
            CelSheet x = new CelSheet();
            x.feed(n[0], n[1], n[2], n[3], n[4]);
            due("scene() with '!' at " + i, x.scene(), NONE);
            due("its place", x.fault(1), i);
        }
        for (int sign = 0; sign < 256; sign++) {
            boolean blank = sign == 32 || sign == 10;
            for (int i = 0; i < 4; i++) {
                int n = BLANKS & ~(255 << 24 - i * 8) | sign << 24 - i * 8;
                CelSheet x = new CelSheet();
                x.feed(BLANKS, n, BLANKS, BLANKS, BLANKS);
                due("scene() of sign " + sign, x.scene(), NONE);
                due("its fault", x.fault(0), 1);
                due("its place", x.fault(1), blank ? 20 : 4 + i);
            }
        }
    }

    private static void refusedFeed() {
        for (int length : new int[] {1181, 1182, 1190, 1199, 1200}) {
            CelSheet x = new CelSheet();
            Due.tell(x, padded(Edge.LEAST, length));
            due("feed behind " + length, x.feed(0x3b3b3b3b, 1, 2, 3, 4), NONE);
            due("look(6) still", x.look(6), length);
            due("feed behind it again", x.feed(0, 0, 0, 0, 0), NONE);
            due("scene() of what was there", x.scene(), 2);
            x = new CelSheet();
            Due.tell(x, padded("frames 1;", length));
            x.feed(0x3b3b3b3b, 1, 2, 3, 4);
            due("scene() without a layer", x.scene(), NONE);
            due("its fault", x.fault(0), 5);
            due("its place", x.fault(1), length);
        }
    }

    private static void end() {
        int[] lengths = {0, 1, 19, 20, 21, 1180, 1199, 1200};
        for (int length : lengths) {
            for (int n : new int[] {Edge.MIN, -2, -1, length + 1, length + 2, length + 20, 1201, Edge.MAX}) {
                CelSheet x = new CelSheet();
                Due.tell(x, "!".repeat(length));
                Due.due("end(" + n + ") of " + length, x.end(n), false);
                due("look(6) behind end(" + n + ")", x.look(6), length);
            }
            for (int n : new int[] {0, length / 2, Math.max(0, length - 1), length}) {
                CelSheet x = new CelSheet();
                Due.tell(x, "!".repeat(length));
                Due.due("end(" + n + ") of " + length, x.end(n), true);
                due("look(6) behind end(" + n + ")", x.look(6), n);
                Due.due("end(" + (n + 1) + ") then", x.end(n + 1), false);
                Due.due("end(" + n + ") again", x.end(n), true);
            }
        }
        // The first bytes stay, alone, and what comes then comes behind them.
        CelSheet x = new CelSheet();
        Due.tell(x, Edge.LEAST + "!!!!!!");
        Due.due("end of the text", x.end(Edge.LEAST.length()), true);
        Due.tell(x, "layer b on 1=2;");
        due("scene() of both", x.scene(), 3);
        due("the second one", x.at(1, 0), 2);
        x = new CelSheet();
        Due.tell(x, Edge.LEAST);
        Due.due("end one less", x.end(Edge.LEAST.length() - 1), true);
        due("scene() without its last byte", x.scene(), NONE);
        due("its place", x.fault(1), Edge.LEAST.length() - 1);
        x = new CelSheet();
        Due.tell(x, Edge.LEAST);
        Due.due("end that is refused", x.end(-1), false);
        Due.due("end that is refused", x.end(Edge.LEAST.length() + 1), false);
        due("scene() of all of it", x.scene(), 2);
    }

    // ---- texts

    private static void blanks() {
        for (int sign = 0; sign < 256; sign++) {
            if (sign == 32 || sign == 10) {
                due("blank " + sign, Due.sheet("frames 1;" + (char) sign + "layer a on 1=1;").look(1), 1);
                due("blank ahead " + sign, Due.sheet((char) sign + Edge.LEAST).look(1), 1);
                due("blank behind " + sign, Due.sheet(Edge.LEAST + (char) sign).look(1), 1);
            } else {
                // No sign, letter or digit begins a statement, and these words aren't ones.
                Due.fault("frames 1;" + (char) sign + "layer a on 1=1;", 1, 9);
                Due.fault((char) sign + Edge.LEAST, 1, 0);
                Due.fault(Edge.LEAST + (char) sign, 1, Edge.LEAST.length());
            }
        }
        // With its highest bit a byte is another one.
        int[] begins = {0, 6, 7, 8, 9, 14, 15, 16, 17, 19, 20, 21, 22, 23};
        for (int p : begins) {
            char[] signs = Edge.LEAST.toCharArray();
            signs[p] += 128;
            Due.fault(new String(signs), 1, p);
        }
        // A word or a number that is cut by a blank is two.
        Due.fault("fram es 8;", 1, 0);
        Due.fault("frames 1 2;", 1, 9);
        Due.fault("frames 8;layer a b on 1=1;", 1, 17);
        Due.fault("frames 8;layer a o n 1=1;", 1, 17);
        Due.fault("frames 8;layer a on 1=bl ank;", 1, 22);
        Due.fault("frames 8;layer a on 1=1 lo op;", 1, 24);
        Due.row(Edge.line(4, "1=1 2 stop"), 0, 1, 2, 0, 0);
        Due.row(Edge.line(4, "1=12 stop"), 0, 12, 0, 0, 0);
        // Words that stand together are one.
        Due.fault("frames 8;layera on 1=1;", 1, 9);
        Due.fault("frames 8;layer aon 1=1;", 1, 19);
        Due.fault("frames 8;layer a on 1=blankx2;", 1, 22);
        Due.fault("frames 8;layer a on 1=1xx2;", 1, 23);
        Due.fault("frames 8;layer a on 1=1loopstop;", 1, 23);
    }

    private static final String[] ALL = ("frames 8 ; layer ab on 2 = 1 - 3 x 2 blank x 1 swing ( 4 ( 5 ) x 2 ) x 3 loop"
            + " ; layer c on 1 = 7 stop ; cel ab 1 at 0 3 size 1 8 ink 9 ; slide c from 0 to 1 left 1 up 2"
            + " ; slide ab from 1 to 2 right 3 down 0 ; hide c from 0 to 4 ;").split(" ");

    private static boolean standTogether(String one, String other) {
        boolean word = Character.isLetter(one.charAt(0)) && Character.isLetter(other.charAt(0));
        return word || Character.isDigit(one.charAt(0)) && Character.isDigit(other.charAt(0));
    }

    /** The signs with a gap between each two; with none of their own only where they need one. */
    private static String joined(String gap, int from, int to) {
        StringBuilder b = new StringBuilder();
        for (int i = from; i < to; i++) {
            String needed = i > from && standTogether(ALL[i - 1], ALL[i]) ? " " : "";
            b.append(i == from ? "" : gap.isEmpty() ? needed : gap).append(ALL[i]);
        }
        return b.toString();
    }

    private static void blanksBetweenAll() {
        for (String gap : new String[] {"", " ", "\n", "  ", " \n ", "\n\n"}) {
            for (String edge : new String[] {"", " ", "\n"}) {
                CelSheet x = Due.sheet(edge + joined(gap, 0, ALL.length) + edge);
                due("layers", x.look(1), 2);
                due("slides", x.look(3), 2);
                due("wide box", x.box(0, 5), 8);
                due("hidden", x.hidden(1, 4), 1);
                Due.row(x, 0, 1, 1, 2, 2, 3, 3, 0, 4);
                Due.row(x, 1, 7, 0, 0, 0, 0, 0, 0, 0);
            }
        }
        for (int i = 0; i < ALL.length; i++) {
            // What stands nowhere, in the place of each sign.
            String ahead = joined(" ", 0, i);
            String start = i == 0 ? "" : ahead + " ";
            for (String wrong : new String[] {"?", "Z", "abcdefg", "0001"}) {
                Due.fault(start + wrong + " " + joined(" ", i + 1, ALL.length), 1, start.length());
            }
            // The end, in the place of each sign; a scene that ends there is one.
            boolean whole = i > 0 && ALL[i - 1].equals(";");
            for (String text : new String[] {ahead, start, start + "\n \n"}) {
                if (!whole) {
                    Due.fault(text, 1, text.length());
                } else if (i == 3) {
                    Due.fault(text, 5, text.length());
                } else {
                    due("whole scene", Due.sheet(text).look(0), 8);
                }
            }
        }
    }

    private static void names() {
        String[] good = {"a", "z", "az", "abcdef", "zzzzzz", "y", "w", "xx", "frame", "layers", "laye", "o", "n",
            "onn", "loo", "loops", "stops", "sto", "ce", "cels", "ats", "t", "siz", "sizes", "in", "inks", "slid",
            "slides", "fro", "froms", "too", "righ", "rights", "lef", "lefts", "dow", "downs", "u", "upp", "hid",
            "hides", "blan", "blanks", "swin", "swings", "ax", "xa", "orames"};
        for (String name : good) {
            String text = "frames 8;layer " + name + " on 1=1;cel " + name + " 1 at 0 0 size 1 1 ink 1;slide " + name
                    + " from 0 to 0 left 1 up 1;hide " + name + " from 0 to 0;";
            CelSheet x = Due.sheet(text);
            due("letters of " + name, x.spelt(0, NONE), name.length());
            for (int k = 0; k < name.length(); k++) {
                due("sign of " + name, x.spelt(0, k), name.charAt(k));
            }
            due("boxes of " + name, x.look(2) + x.look(3) + x.look(4), 3);
        }
        String six = "frames 8;layer abcdef on 1=1;";
        for (String start : new String[] {"layer ", "cel ", "slide ", "hide "}) {
            for (String word : WORDS) {
                Due.fault(six + start + word + " ", 1, six.length() + start.length());
            }
            for (String wrong : new String[] {"abcdefg", "aaaaaaa", "abcdefgh", "A", "1", "_", ";", "=", "aaaaaaaaaaaaaaaaaaa"}) {
                Due.fault(six + start + wrong + " on 1=1;", 1, six.length() + start.length());
            }
            Due.fault(six + start, 1, six.length() + start.length());
            // A name that is not there, or there already.
            boolean fresh = start.equals("layer ");
            for (String name : new String[] {"abcdef", "abcde", "abcdeg", "bbcdef", "a", "f"}) {
                if (fresh == name.equals("abcdef")) {
                    Due.fault(six + start + name + " on 1=1;", 3, six.length() + start.length());
                } else {
                    // The name can stand there; what follows is wrong instead.
                    Due.fault(six + start + name + " ?", 1, six.length() + start.length() + name.length() + 1);
                }
            }
        }
        Due.fault("frames 8;cel a 1 at 0 0 size 1 1 ink 1;layer a on 1=1;", 3, 13);
        Due.fault("frames 8;slide a from 0 to 0 left 1 up 1;layer a on 1=1;", 3, 15);
        Due.fault("frames 8;hide a from 0 to 0;layer a on 1=1;", 3, 14);
        Due.fault("frames 8;layer a on 1=1;hide b from 0 to 0;layer b on 1=1;", 3, 29);
    }

    private static String put(String text, String number) {
        return text.replace("#", number);
    }

    /** An N in a place "#": from low to high it can be, and it has up to three digits. */
    private static void number(String text, int low, int high) {
        int place = text.indexOf('#');
        for (int n : new int[] {low, low + 1, high - 1, high}) {
            if (n < low || n > high) {
                continue;
            }
            for (String digits : new String[] {"" + n, String.format("%02d", n), String.format("%03d", n)}) {
                CelSheet x = new CelSheet();
                due("scene() of: " + put(text, digits), Due.scene(x, put(text, digits)) == NONE ? 0 : 1, 1);
            }
            Due.fault(put(text, String.format("%04d", n)), 1, place);
        }
        for (int n : new int[] {low - 1, high + 1, high + 2, 0, 100, 256, 257, 999}) {
            if (n >= 0 && (n < low || n > high)) {
                Due.fault(put(text, "" + n), 2, place);
                Due.fault(put(text, String.format("%03d", n)), 2, place);
                Due.fault(put(text, String.format("%04d", n)), 1, place);
            }
        }
        for (String wrong : new String[] {"q", "x", "-1", "+1", "1000", "0000", "9999999999", "4294967297", "$", ";"}) {
            Due.fault(put(text, " " + wrong), 1, place + 1);
        }
    }

    private static void numbers() {
        number("frames #;layer a on 1=1;", 1, 96);
        number("frames 8;layer a on #=1;", 1, 24);
        number("frames 8;layer a on 1=2-#;", 1, 99);
        number("frames 8;layer a on 1=99-#;", 1, 99);
        number("frames 8;layer a on 1=1x#;", 1, 96);
        number("frames 8;layer a on 1=1-4x#;", 1, 96);
        number("frames 8;layer a on 1=blank x#;", 1, 96);
        number("frames 8;layer a on 1=(1)x#;", 1, 96);
        number("frames 8;layer a on 1=swing(1-3)x#;", 1, 96);
        number("frames 96;layer a on 24=((1-99 x96)x#)x96;", 1, 96);
        number(A + "cel a # at 0 0 size 1 1 ink 1;", 1, 99);
        number(A + "cel a 1 at # 0 size 1 1 ink 1;", 0, 11);
        number(A + "cel a 1 at 0 # size 1 1 ink 1;", 0, 7);
        number(A + "cel a 1 at 11 7 size # 1 ink 1;", 1, 12);
        number(A + "cel a 1 at 11 7 size 1 # ink 1;", 1, 8);
        number(A + "cel a 1 at 0 0 size 1 1 ink #;", 1, 9);
        for (String across : new String[] {"left ", "right "}) {
            for (String along : new String[] {"up ", "down "}) {
                number(A + "slide a from 0 to 7 " + across + "#" + along + "0;", 0, 9);
                number(A + "slide a from 0 to 7 " + across + "0 " + along + "#;", 0, 9);
            }
        }
        // A drawing that begins a part: what else can stand there is no fault.
        for (int n : new int[] {1, 2, 98, 99}) {
            Due.row(Edge.line(1, "1=" + n), 0, n);
            Due.row(Edge.line(1, "1=" + String.format("%03d", n)), 0, n);
            Due.row(Edge.line(2, "1=(" + n + ")"), 0, n, n);
            Due.row(Edge.line(2, "1=" + n + "-" + n), 0, n, n);
        }
        for (int n : new int[] {0, 100, 101, 999}) {
            Due.fault("frames 1;layer a on 1=" + n + ";", 2, 22);
            Due.fault("frames 1;layer a on 1=" + n + "-1;", 2, 22);
            Due.fault("frames 1;layer a on 1=1 " + n + ";", 2, 24);
            Due.fault("frames 1;layer a on 1=(" + n + ");", 2, 23);
        }
        for (String digits : new String[] {"0000", "0001", "1000", "00000000000000000001"}) {
            Due.fault("frames 1;layer a on 1=" + digits + ";", 1, 22);
            Due.fault("frames 1;layer a on 1=1 " + digits + ";", 1, 24);
            Due.fault("frames 1;layer a on 1=(" + digits + ");", 1, 23);
        }
    }

    private static void spans() {
        for (String start : new String[] {"hide a ", "slide a "}) {
            String end = start.equals("hide a ") ? ";" : " right 1 down 1;";
            for (int frames : new int[] {1, 2, 8, 95, 96}) {
                String text = "frames " + frames + ";layer a on 1=1;" + start;
                int last = frames - 1;
                number(text + "from # to " + last + end, 0, last);
                number(text + "from 0 to #" + end, 0, last);
                number(text + "from " + last + " to #" + end, last, last);
                number(text + "from " + last / 2 + " to #" + end, last / 2, last);
                Due.fault(text + "from " + frames + " to " + frames + end, 2, text.length() + 5);
            }
        }
    }

    private static void absent() {
        Due.fault("frames;layer a on 1=1;", 1, 6);
        Due.fault("frames 8;layer on 1=1;", 1, 15);
        Due.fault("frames 8;layer a 1=1;", 1, 17);
        Due.fault("frames 8;layer a on=1;", 1, 19);
        Due.fault("frames 8;layer a on 1 1;", 1, 22);
        Due.fault("frames 8;layer a on 1=;", 1, 22);
        Due.fault("frames 8;layer a on 1=loop;", 1, 22);
        Due.fault("frames 8;layer a on 1=x 2;", 1, 22);
        Due.fault("frames 8;layer a on 1=-2;", 1, 22);
        Due.fault("frames 8;layer a on 1=1-;", 1, 24);
        Due.fault("frames 8;layer a on 1=1 x;", 1, 25);
        Due.fault("frames 8;layer a on 1=blank x;", 1, 29);
        Due.fault("frames 8;layer a on 1=blank-2;", 1, 27);
        Due.fault("frames 8;layer a on 1=1-blank;", 1, 24);
        Due.fault("frames 8;layer a on 1=1-2-3;", 1, 25);
        Due.fault("frames 8;layer a on 1=1x2x2;", 1, 25);
        Due.fault("frames 8;layer a on 1=(1)x2x2;", 1, 27);
        Due.fault("frames 8;layer a on 1=(1)-2;", 1, 25);
        Due.fault("frames 8;layer a on 1=1x2-3;", 1, 25);
        Due.fault("frames 8;layer a on 1=();", 1, 23);
        Due.fault("frames 8;layer a on 1=(1)();", 1, 26);
        Due.fault("frames 8;layer a on 1=(1 loop);", 1, 25);
        Due.fault("frames 8;layer a on 1=(1;", 1, 24);
        Due.fault("frames 8;layer a on 1=((1);", 1, 26);
        Due.fault("frames 8;layer a on 1=1);", 1, 23);
        Due.fault("frames 8;layer a on 1=(1));", 1, 25);
        Due.fault("frames 8;layer a on 1=swing 1;", 1, 28);
        Due.fault("frames 8;layer a on 1=swing;", 1, 27);
        Due.fault("frames 8;layer a on 1=swing blank;", 1, 28);
        Due.fault("frames 8;layer a on 1=1 loop 2;", 1, 29);
        Due.fault("frames 8;layer a on 1=1 stop loop;", 1, 29);
        Due.fault("frames 8;layer a on 1=1 loop stop;", 1, 29);
        Due.fault("frames 8 layer a on 1=1;", 1, 9);
        Due.fault("frames 8;layer a on 1=1", 1, 23);
        Due.fault(A + "slide a from 0 to 0 down 1 left 1;", 1, 44);
        Due.fault(A + "slide a from 0 to 0 left 1 right 1;", 1, 51);
        Due.fault(A + "slide a from 0 to 0 up 1;", 1, 44);
        Due.fault(A + "slide a from 0 to 0 left 1;", 1, 50);
        Due.fault(A + "slide a to 0 from 0 left 1 up 1;", 1, 32);
        Due.fault(A + "hide a to 0;", 1, 31);
    }

    private static void firstStatement() {
        for (String first : new String[] {"layer a on 1=1;", "cel a 1 at 0 0 size 1 1 ink 1;", "hide a from 0 to 0;",
            "slide a from 0 to 0 left 1 up 1;", ";", "loop;", "a;", "frame 8;", "framess 8;", "8;"}) {
            Due.fault(first, 1, 0);
            Due.fault(" \n" + first + Edge.LEAST, 1, 2);
        }
        String[] later = {"", "layer a on 1=1;", A.substring(9) + "hide a from 0 to 0;"};
        for (String between : later) {
            String text = "frames 8;" + between;
            Due.fault(text + "frames 8;", 1, text.length());
            Due.fault(text + " frames", 1, text.length() + 1);
            Due.fault(text + "\nframes 97;", 1, text.length() + 1);
        }
        for (String other : new String[] {"loop", "stop", "on", "a", "x", "blank", "swing", "Layer", "layers", "laye"}) {
            Due.fault(A + " " + other + " a on 1=1;", 1, A.length() + 1);
        }
        Due.fault(A + ";", 1, A.length());
        Due.fault(A + "1;", 1, A.length());
    }

    private static void doubled() {
        List<String> once = Arrays.asList("frames", ";", "layer", "ab", "c", "on", "=", "-", "x", "swing", "loop",
                "stop", "cel", "at", "size", "ink", "slide", "from", "to", "left", "up", "right", "down", "hide");
        for (int i = 0; i < ALL.length; i++) {
            if (once.contains(ALL[i])) {
                String ahead = joined(" ", 0, i + 1) + " ";
                Due.fault(ahead + joined(" ", i, ALL.length), 1, ahead.length());
            }
        }
    }

    /** Behind a text only these signs can stand; each other one is a fault where it begins. */
    private static void follows(String ahead, String... allowed) {
        List<String> right = Arrays.asList(allowed);
        List<String> all = new ArrayList<>(WORDS);
        all.addAll(Arrays.asList("a", "q", "1", "-", "(", ")", "=", ";", "?"));
        for (String sign : all) {
            String text = ahead + " " + sign;
            if (!right.contains(sign)) {
                boolean name = right.contains("a") && sign.equals("q") || right.contains("q") && sign.equals("a");
                Due.fault(text, name ? 3 : 1, ahead.length() + 1);
            } else {
                // Then it is the end that comes too early, if it does.
                CelSheet x = new CelSheet();
                int statements = Due.scene(x, text);
                due("place in: " + text, x.fault(1), statements == NONE ? text.length() : NONE);
            }
        }
    }

    private static void whatFollows() {
        follows("", "frames");
        follows("frames", "1");
        follows("frames 8", ";");
        follows("frames 8;", "layer", "cel", "slide", "hide");
        follows("frames 8;layer", "a", "q");
        follows(A, "layer", "cel", "slide", "hide");
        follows(A + "layer", "q");
        follows(A + "layer q", "on");
        follows(A + "layer q on", "1");
        follows(A + "layer q on 1", "=");
        String[] cel = {"a", "1", "at", "1", "1", "size", "1", "1", "ink", "1", ";"};
        followsEach(A + "cel", cel);
        String[] span = {"a", "from", "1", "to", "1"};
        String slide = followsEach(A + "slide", span);
        followsEach(A + "hide", span);
        follows(A + "hide a from 1 to 1", ";");
        follows(slide, "left", "right");
        for (String across : new String[] {" left", " right"}) {
            follows(slide + across, "1");
            follows(slide + across + " 1", "up", "down");
            for (String along : new String[] {" up", " down"}) {
                follows(slide + across + " 1" + along, "1");
                follows(slide + across + " 1" + along + " 1", ";");
            }
        }
    }

    private static String followsEach(String start, String... signs) {
        String text = start;
        for (String sign : signs) {
            follows(text, sign);
            text = text + " " + sign;
        }
        return text;
    }

    private static void whatFollowsInLines() {
        for (String start : new String[] {"frames 8;layer b on 1=", A + "layer b on 1="}) {
            follows(start, "1", "blank", "swing", "(");
            follows(start + "1", "-", "x", "1", "blank", "swing", "(", "loop", "stop", ";");
            follows(start + "1 -", "1");
            follows(start + "1 - 1", "x", "1", "blank", "swing", "(", "loop", "stop", ";");
            follows(start + "1 x", "1");
            follows(start + "1 - 1 x", "1");
            follows(start + "1 x 1", "1", "blank", "swing", "(", "loop", "stop", ";");
            follows(start + "blank", "x", "1", "blank", "swing", "(", "loop", "stop", ";");
            follows(start + "blank x", "1");
            follows(start + "blank x 1", "1", "blank", "swing", "(", "loop", "stop", ";");
            follows(start + "swing", "(");
            follows(start + "1 swing", "(");
            follows(start + "(1) x", "1");
            follows(start + "(1)", "x", "1", "blank", "swing", "(", "loop", "stop", ";");
            follows(start + "swing(1)", "x", "1", "blank", "swing", "(", "loop", "stop", ";");
            follows(start + "(1) x 1", "1", "blank", "swing", "(", "loop", "stop", ";");
            follows(start + "1 loop", ";");
            follows(start + "1 stop", ";");
            for (String open : new String[] {"(", "swing(", "((", "1 (", "(1)("}) {
                follows(start + open, "1", "blank", "swing", "(");
                follows(start + open + "1", "-", "x", "1", "blank", "swing", "(", ")");
                follows(start + open + "1 - 1", "x", "1", "blank", "swing", "(", ")");
                follows(start + open + "1 x 1", "1", "blank", "swing", "(", ")");
                follows(start + open + "blank", "x", "1", "blank", "swing", "(", ")");
                follows(start + open + "(1)", "x", "1", "blank", "swing", "(", ")");
                follows(start + open + "1 swing", "(");
            }
        }
    }

    // ---- as many as there may be

    private static void oneTooMany(String start, String one, int most, int what) {
        String full = start + Edge.many(most, one);
        due("as many as there may be: " + one, Due.sheet(full).look(what), most);
        due("one less: " + one, Due.sheet(start + Edge.many(most - 1, one)).look(what), most - 1);
        String word = one.substring(0, one.indexOf(' '));
        for (String more : new String[] {one, word, word + ";", word + " q", word + " a ?", word + " 0001"}) {
            Due.fault(full + more, 4, full.length());
            Due.fault(full + "\n  " + more, 4, full.length() + 3);
        }
        // Others can still come.
        due("others behind " + one, Due.sheet(full + (what == 4 ? "" : "hide a from 0 to 0;")).look(4) > 0 ? 1 : 0, 1);
    }

    private static void oneTooMany() {
        oneTooMany("frames 9;layer a on 1=1;", "cel a1at0 0size1 1ink1;", 40, 2);
        oneTooMany("frames 9;layer a on 1=1;", "slide a from 0 to 0 left 0 up 0;", 12, 3);
        oneTooMany("frames 9;layer a on 1=1;", "hide a from 0 to 0;", 12, 4);
        StringBuilder b = new StringBuilder("frames 9;");
        for (char name = 'a'; name <= 'f'; name++) {
            b.append("layer ").append(name).append(" on 1=1;");
        }
        String six = b.toString();
        due("six layers", Due.sheet(six).look(1), 6);
        for (String more : new String[] {"layer g on 1=1;", "layer a on 1=1;", "layer on", "layer", "layer;", "layer g on 0"}) {
            Due.fault(six + more, 4, six.length());
            Due.fault(six + "\n " + more, 4, six.length() + 2);
        }
        due("a box behind six layers", Due.sheet(six + "cel f 1 at 0 0 size 1 1 ink 1;").look(2), 1);
        // The boxes of all layers count together.
        String boxes = six + Edge.many(20, "cel a1at0 0size1 1ink1;") + Edge.many(20, "cel b1at0 0size1 1ink1;");
        due("boxes of two layers", Due.sheet(boxes).look(2), 40);
        Due.fault(boxes + "cel c1at0 0size1 1ink1;", 4, boxes.length());
        String spans = six + Edge.many(6, "slide a from0to0left0up0;hide b from0to0;")
                + Edge.many(6, "slide c from0to0left0up0;hide d from0to0;");
        due("slides of two layers", Due.sheet(spans).look(3), 12);
        due("hides of two layers", Due.sheet(spans).look(4), 12);
        Due.fault(spans + "slide e from0to0left0up0;", 4, spans.length());
        Due.fault(spans + "hide e from0to0;", 4, spans.length());
        // No text of 1,200 bytes has room for sixty statements: of these there is room for the most.
        String crowd = "frames9;" + six.substring(9).replace("on 1", "on1") + Edge.many(12, "hide a from0to0;")
                + Edge.many(39, "cel a1at0 0size1 1ink1;");
        due("statements of " + crowd.length() + " bytes", Due.scene(new CelSheet(), crowd), 58);
        due("the same up to the last byte", Due.scene(new CelSheet(), padded(crowd, 1200)), 58);
        Due.fault(padded(crowd, 1199) + ";", 1, 1199);
    }

    private static void parts() {
        String start = "frames 9;layer a on 1=";
        String[] kinds = {"1 ", "blank ", "1-3 ", "1x2 ", "3-1x2 "};
        for (String kind : kinds) {
            String forty = start + Edge.many(40, kind);
            Due.sheet(forty + ";");
            Due.sheet(forty + "loop;");
            Due.fault(forty + "1;", 4, forty.length());
            Due.fault(forty + " 1 2 3 4;", 4, forty.length() + 1);
            Due.fault(forty + "blank;", 4, forty.length());
            Due.fault(forty + "(1);", 4, forty.length());
            Due.fault(forty + "\nswing(1);", 4, forty.length() + 1);
            Due.fault(forty + "swing 1;", 4, forty.length());
            Due.fault(forty + "99", 4, forty.length());
            // Of one place the least fault; a part that is none is no 41st one.
            Due.fault(forty + "0;", 2, forty.length());
            Due.fault(forty + "100;", 2, forty.length());
            Due.fault(forty + "0001;", 1, forty.length());
            Due.fault(forty + ");", 1, forty.length());
            Due.fault(forty + "a;", 1, forty.length());
        }
        // A bracket is a part, and so are those within it.
        String nested = start + Edge.many(8, "(1 2 3 4)");
        Due.sheet(nested + ";");
        Due.sheet(nested + "x9;");
        Due.fault(nested + "1;", 4, nested.length());
        Due.fault(nested + "(1);", 4, nested.length());
        String one = start + Edge.many(39, "1 ");
        Due.sheet(one + "1;");
        Due.fault(one + "(1);", 4, one.length() + 1);
        Due.fault(one + "swing(2 3);", 4, one.length() + 6);
        Due.fault(one + "((2));", 4, one.length() + 1);
        String deep = start + "(((((" + Edge.many(35, "1 ");
        Due.sheet(deep + ")))));");
        Due.fault(deep + "1)))));", 4, deep.length());
        Due.fault(deep + ")))))1;", 4, deep.length() + 5);
        // How often a line comes does not count, nor how many holds it has.
        Due.sheet(start + Edge.many(20, "(1-99x96)x96") + ";");
        // Each line has its own forty.
        String two = start + Edge.many(40, "1 ") + ";layer b on 1=" + Edge.many(40, "2 ");
        Due.sheet(two + ";");
        Due.fault(two + "2;", 4, two.length());
    }

    private static void openBrackets() {
        String start = "frames 9;layer a on 1=";
        Due.sheet(start + "(((((1)))));");
        Due.sheet(start + "swing(swing(swing(swing(swing(1)))));");
        Due.fault(start + "((((((1))))));", 4, start.length() + 5);
        Due.fault(start + "((((((", 4, start.length() + 5);
        Due.fault(start + "(((((\n(1))))));", 4, start.length() + 6);
        Due.fault(start + "(((((swing (1))))));", 4, start.length() + 11);
        Due.fault(start + "(((((swing 1)))));", 1, start.length() + 11);
        Due.fault(start + "(((((2 (1))))));", 4, start.length() + 7);
        Due.fault(start + "((((1)(2)(((3)))))", 4, start.length() + 11);
        // Those that were closed are open no more.
        Due.sheet(start + "(((((1)))))(((((1)))));");
        Due.sheet(start + "((((1)(2)(3))(4)))(5);");
        Due.sheet(start + "((((1))));layer b on 1=(((((1)))));");
        Due.sheet(start + "(((((2)(1)))))(1);");
        Due.sheet(start + "((((1)(2)((3)))));");
    }

    private static void lastStatement() {
        for (String text : new String[] {"frames 1;", "frames 96;", "frames 8; \n", "\nframes 8;\n"}) {
            Due.fault(text, 5, text.length());
        }
        Due.fault(padded("frames 8;", 1200), 5, 1200);
        // Only without another one.
        Due.fault("frames 8;layer", 1, 14);
        Due.fault("frames 8;hide a", 3, 14);
        Due.fault("frames 97;", 2, 7);
        Due.fault("frames 8", 1, 8);
    }

    private static void firstFault() {
        Due.fault("frames 97;layer x on 0=0;", 2, 7);
        Due.fault("frames 8;layer x on 0=0;", 1, 15);
        Due.fault("frames 8;layer a on 0=0;", 2, 20);
        Due.fault("frames 8;layer a on 1=0;layer a on 1=1;", 2, 22);
        Due.fault(A + "layer a on 0=0;", 3, A.length() + 6);
        Due.fault(A + "cel b 0 at 12 8 size 0 0 ink 0;", 3, A.length() + 4);
        Due.fault(A + "cel a 0 at 12 8 size 0 0 ink 0;", 2, A.length() + 6);
        Due.fault(A + "hide a from 9 to 3;", 2, A.length() + 12);
        Due.fault(A + "hide a from 5 to 3", 2, A.length() + 17);
        Due.fault("frames 8;layer a on 1=((((((0", 4, 27);
        Due.fault("frames 8;layer a on 1=(((((0(", 2, 27);
        Due.fault("", 1, 0);
        Due.fault(" ", 1, 1);
    }

    private static void length() {
        String text = padded(A, 1200 - 15) + "layer b on 1=2;";
        due("bytes of it", text.length(), 1200);
        Due.row(Due.sheet(text), 1, 2, 2, 2, 2, 2, 2, 2, 2);
        Due.fault(text.substring(0, 1199) + " ", 1, 1200);
        Due.fault(text.substring(0, 1199) + "?", 1, 1199);
        Due.fault(text.substring(0, 1199), 1, 1199);
    }

    // ---- promises 4, 5 and 6

    private static void nothingTold(CelSheet x) {
        for (int what = 0; what <= 4; what++) {
            due("look(" + what + ")", x.look(what), 0);
        }
        due("at", x.at(0, 0), NONE);
        due("cell", x.cell(0, 0, 0), NONE);
        due("takes", x.take(NONE), 0);
        due("keep", x.keep(0), -3);
    }

    private static void scene() {
        due("the least", Due.scene(new CelSheet(), Edge.LEAST), 2);
        due("a full one", Due.scene(new CelSheet(), Edge.FULL), 49);
        due("a moved one", Due.scene(new CelSheet(), Edge.MOVED), 31);
        // With a fault there is still none.
        CelSheet x = new CelSheet();
        due("scene() with a fault at its end", Due.scene(x, Edge.FULL + "?"), NONE);
        due("the tape is empty", x.look(6), 0);
        nothingTold(x);
        due("the least then", Due.scene(x, Edge.LEAST), 2);
        due("the tape is empty", x.look(6), 0);
        // With a fault all else stays, also with twenty acts and both kept.
        x.keep(0);
        for (int n = 2; n <= 22; n++) {
            x.expose(0, 0, 0, n);
        }
        x.keep(1);
        for (String wrong : new String[] {"", Edge.FULL + "?", "frames 96;", "frames 3;layer b on 1=2;hide c from 0 to 0;"}) {
            due("scene() with a fault", Due.scene(x, wrong), NONE);
            due("frames", x.look(0), 1);
            due("layers", x.look(1), 1);
            due("boxes", x.look(2), 0);
            due("name", x.spelt(0, 0), 'a');
            due("told", x.told(0, 0), 1);
            due("at", x.at(0, 0), 22);
            due("acts", x.look(5), 20);
            due("kept 0", x.apart(0), 1);
            due("kept 1", x.apart(1), 0);
            due("tape", x.look(6), 0);
        }
        due("undo behind a fault", x.undo(), 19);
        due("undone", x.at(0, 0), 21);
        // A sound one, also the same once more, leaves nothing to undo and nothing kept.
        due("the least again", Due.scene(x, Edge.LEAST), 2);
        due("acts", x.look(5), 0);
        due("undo", x.undo(), -3);
        due("kept 0", x.apart(0), -3);
        due("kept 1", x.back(1), -3);
        due("at", x.at(0, 0), 1);
        // The stack is by numbers again.
        x = Due.sheet(Edge.FULL);
        x.raise(0);
        x.raise(2);
        due("a full one again", Due.scene(x, Edge.FULL), 49);
        for (int layer = 0; layer < 6; layer++) {
            due("place of " + layer, x.layer(layer, 1), layer);
        }
        // A text comes from the tape once.
        due("scene() of an empty tape", x.scene(), NONE);
        due("its place", x.fault(1), 0);
        due("layers stay", x.look(1), 6);
    }

    private static void fault() {
        CelSheet x = new CelSheet();
        faultIs(x, "ahead of any", 0, NONE);
        Due.scene(x, Edge.LEAST);
        faultIs(x, "without", 0, NONE);
        x.scene();
        faultIs(x, "of an empty tape", 1, 0);
        Due.scene(x, padded("frames 1;", 1200));
        faultIs(x, "at the end", 5, 1200);
        Due.tell(x, "a");
        due("named()", x.named(), 0);
        x.end(0);
        x.feed(0, 0, 0, 0, 0);
        x.end(0);
        x.expose(0, 0, 0, 5);
        x.undo();
        x.keep(0);
        x.back(0);
        faultIs(x, "behind other calls", 5, 1200);
        Due.scene(x, "frames 0;");
        faultIs(x, "of an N", 2, 7);
        Due.scene(x, Edge.LEAST + "layer a on 1=1;");
        faultIs(x, "of a name", 3, 30);
        Due.scene(x, "frames 1;layer a on 1=((((((1");
        faultIs(x, "of one too many", 4, 27);
        Due.scene(x, Edge.FULL);
        faultIs(x, "without again", 0, NONE);
    }

    private static void faultIs(CelSheet x, String what, int kind, int place) {
        due("fault(0) " + what, x.fault(0), kind);
        due("fault(1) " + what, x.fault(1), place);
        for (int odd : new int[] {Edge.MIN, -2, -1, 2, 3, Edge.MAX}) {
            due("fault(" + odd + ") " + what, x.fault(odd), NONE);
        }
    }

    private static void namedIs(CelSheet x, String text, int layer) {
        Due.tell(x, text);
        due("bytes of '" + text + "'", x.look(6), text.length());
        due("named() of '" + text + "'", x.named(), layer);
        due("tape behind named()", x.look(6), 0);
        due("named() of an empty tape", x.named(), NONE);
    }

    private static void named() {
        for (String text : new String[] {"", "a", " ", "abcdef", "frames 1;"}) {
            namedIs(new CelSheet(), text, NONE);
        }
        String[] names = {"a", "b", "c", "d", "e", "abcdef"};
        for (int layer = 0; layer < names.length; layer++) {
            CelSheet x = Due.sheet(Edge.FULL);
            namedIs(x, names[layer], layer);
            namedIs(x, " \n" + names[layer] + "\n ", layer);
            namedIs(x, padded(names[layer], 1200), layer);
            namedIs(x, " ".repeat(1200 - names[layer].length()) + names[layer], layer);
        }
        CelSheet x = Due.sheet(Edge.FULL);
        for (String text : new String[] {"", " ", "\n", "f", "z", "ab", "abcde", "abcdeg", "abcdefg", "bcdef", "aa", "A",
            "a b", "a a", "a;", ";a", "a1", "1a", "1", "a\t", "\ta", "a\u0000", "abc def", "layer", "layer a", "x", "a\u00e1"}) {
            namedIs(x, text, NONE);
        }
        due("fault(0) behind named()", x.fault(0), 0);
        due("layers behind named()", x.look(1), 6);
        x.raise(0);
        x.turn(1, 1);
        namedIs(x, "a", 0);
        namedIs(x, "b", 1);
        due("a scene with a fault", Due.scene(x, "frames 1;layer z on 1=1"), NONE);
        namedIs(x, "z", NONE);
        namedIs(x, "abcdef", 5);
        due("fault(0) behind named()", x.fault(0), 1);
        due("a sound scene", Due.scene(x, "frames 1;layer z on 1=1;"), 2);
        namedIs(x, "z", 0);
        namedIs(x, "a", NONE);
        namedIs(x, "abcdef", NONE);
        // A text that is cut: its first bytes alone are there.
        Due.tell(x, "zz");
        x.end(1);
        due("named() of the first byte", x.named(), 0);
    }

    // ---- lines

    private static void lineEnds() {
        for (String end : new String[] {"", " loop", " stop"}) {
            Due.row(Edge.line(6, "1=1-6" + end), 0, 1, 2, 3, 4, 5, 6);
            Due.row(Edge.line(6, "1=1-7" + end), 0, 1, 2, 3, 4, 5, 6);
            Due.row(Edge.line(3, "1=7x4" + end), 0, 7, 7, 7);
            Due.row(Edge.line(3, "1=6 7x96" + end), 0, 6, 7, 7);
            Due.row(Edge.line(1, "1=7 8" + end), 0, 7);
            Due.row(Edge.line(1, "1=7" + end), 0, 7);
        }
        Due.row(Edge.line(6, "1=1-5"), 0, 1, 2, 3, 4, 5, 5);
        Due.row(Edge.line(6, "1=1-5 loop"), 0, 1, 2, 3, 4, 5, 1);
        Due.row(Edge.line(6, "1=1-5 stop"), 0, 1, 2, 3, 4, 5, 0);
        Due.row(Edge.line(7, "1=1-3 loop"), 0, 1, 2, 3, 1, 2, 3, 1);
        Due.row(Edge.line(5, "1=8"), 0, 8, 8, 8, 8, 8);
        Due.row(Edge.line(5, "1=8 loop"), 0, 8, 8, 8, 8, 8);
        Due.row(Edge.line(5, "1=8 stop"), 0, 8, 0, 0, 0, 0);
        // What goes on behind the line is its last hold, also a blank one; the whole line goes round.
        Due.row(Edge.line(5, "1=8 blank"), 0, 8, 0, 0, 0, 0);
        Due.row(Edge.line(5, "1=8 blank loop"), 0, 8, 0, 8, 0, 8);
        Due.row(Edge.line(5, "1=blank 8"), 0, 0, 8, 8, 8, 8);
        Due.row(Edge.line(6, "1=9 (1 2) loop"), 0, 9, 1, 2, 9, 1, 2);
        Due.row(Edge.line(7, "1=5x2 6 loop"), 0, 5, 5, 6, 5, 5, 6, 5);
        // Up to the last of 96.
        CelSheet x = Edge.line(96, "1=1-95");
        due("the last of 96", x.at(0, 95), 95);
        due("the last with loop", Edge.line(96, "1=1-95 loop").at(0, 95), 1);
        due("the last with stop", Edge.line(96, "1=1-95 stop").at(0, 95), 0);
        due("the last but one with stop", Edge.line(96, "1=1-95 stop").at(0, 94), 95);
        due("the last of 96 told", Edge.line(96, "1=1-96 stop").at(0, 95), 96);
    }

    private static void holds() {
        Due.row(Edge.line(4, "1=2 3 stop"), 0, 2, 3, 0, 0);
        Due.row(Edge.line(5, "2=2 3 stop"), 0, 2, 2, 3, 3, 0);
        Due.row(Edge.line(6, "2=2x1 3x3 blank x1 4"), 0, 2, 3, 3, 3, 0, 4);
        Due.row(Edge.line(6, "3=blank 4 stop"), 0, 0, 0, 0, 4, 4, 4);
        Due.row(Edge.line(6, "2=3-1"), 0, 3, 3, 2, 2, 1, 1);
        Due.row(Edge.line(6, "2=1-3x1 stop"), 0, 1, 2, 3, 0, 0, 0);
        Due.row(Edge.line(4, "1=5-5x2 stop"), 0, 5, 5, 0, 0);
        Due.row(Edge.line(4, "1=5-6 stop"), 0, 5, 6, 0, 0);
        Due.row(Edge.line(4, "1=6-5 stop"), 0, 6, 5, 0, 0);
        CelSheet x = Edge.line(96, "24=1-5");
        int[] frames = {0, 23, 24, 47, 48, 71, 72, 95};
        int[] drawings = {1, 1, 2, 2, 3, 3, 4, 4};
        for (int i = 0; i < frames.length; i++) {
            due("on 24 at " + frames[i], x.at(0, frames[i]), drawings[i]);
        }
        due("x 96", Edge.line(96, "1=5x96 6").at(0, 95), 5);
        due("x 95", Edge.line(96, "1=5x95 6").at(0, 95), 6);
        due("blank x 96", Edge.line(96, "1=blank x96 6").at(0, 95), 0);
        due("blank x 95", Edge.line(96, "1=blank x95 6").at(0, 95), 6);
        due("1-99 at 95", Edge.line(96, "1=1-99").at(0, 95), 96);
        due("99-1 at 95", Edge.line(96, "1=99-1").at(0, 95), 4);
        due("99-98 at 1", Edge.line(2, "1=99-98").at(0, 1), 98);
        due("99-99", Edge.line(2, "1=99-99").at(0, 1), 99);
        due("4-99 at 95", Edge.line(96, "1=4-99 1").at(0, 95), 99);
        due("5-99 and 1 at 95", Edge.line(96, "1=5-99 1").at(0, 95), 1);
    }

    private static void rounds() {
        Due.row(Edge.line(6, "1=(1 2)stop"), 0, 1, 2, 0, 0, 0, 0);
        Due.row(Edge.line(6, "1=(1 2)x1 stop"), 0, 1, 2, 0, 0, 0, 0);
        Due.row(Edge.line(6, "1=(1 2)x2 stop"), 0, 1, 2, 1, 2, 0, 0);
        Due.row(Edge.line(6, "1=(1 2)x3 stop"), 0, 1, 2, 1, 2, 1, 2);
        Due.row(Edge.line(6, "1=(1 2)x4 stop"), 0, 1, 2, 1, 2, 1, 2);
        Due.row(Edge.line(6, "2=(1 2x1)x2"), 0, 1, 1, 2, 1, 1, 2);
        // Once without x, however long its holds are.
        Due.row(Edge.line(6, "2=(1 2)stop"), 0, 1, 1, 2, 2, 0, 0);
        Due.row(Edge.line(6, "1=(1 2x3)stop"), 0, 1, 2, 2, 2, 0, 0);
        Due.row(Edge.line(6, "1=(1)x2(2)(3)stop"), 0, 1, 1, 2, 3, 0, 0);
        Due.row(Edge.line(6, "3=((1)x1)stop"), 0, 1, 1, 1, 0, 0, 0);
        Due.row(Edge.line(6, "2=(blank)1 stop"), 0, 0, 0, 1, 1, 0, 0);
        Due.row(Edge.line(8, "1=((1)x2 2)x2 3 stop"), 0, 1, 1, 2, 1, 1, 2, 3, 0);
        Due.row(Edge.line(8, "1=9 ((1 2)x2 3) 4 stop"), 0, 9, 1, 2, 1, 2, 3, 4, 0);
        CelSheet x = Edge.line(96, "1=(1)x95 2");
        due("x 95 at 94", x.at(0, 94), 1);
        due("x 95 at 95", x.at(0, 95), 2);
        due("x 96 at 95", Edge.line(96, "1=(1)x96 2").at(0, 95), 1);
        due("x 47 at 94", Edge.line(96, "1=(1 2)x47 3").at(0, 94), 3);
        due("x 48 at 95", Edge.line(96, "1=(1 2)x48 3").at(0, 95), 2);
        due("x 96 five deep", Edge.line(96, "24=(((((1-99x96)x96)x96)x96)x96)x96 loop").at(0, 95), 1);
        Due.row(Edge.line(4, "1=(((((1)x1)x1)x1)x1)x2 2 stop"), 0, 1, 1, 2, 0);
    }

    private static void swings() {
        Due.row(Edge.line(6, "1=swing(1)stop"), 0, 1, 0, 0, 0, 0, 0);
        Due.row(Edge.line(6, "1=swing(1 2)stop"), 0, 1, 2, 0, 0, 0, 0);
        Due.row(Edge.line(6, "1=swing(1 2 3)stop"), 0, 1, 2, 3, 2, 0, 0);
        Due.row(Edge.line(7, "1=swing(1 2 3 4)stop"), 0, 1, 2, 3, 4, 3, 2, 0);
        Due.row(Edge.line(9, "1=swing(1-3)x2 stop"), 0, 1, 2, 3, 2, 1, 2, 3, 2, 0);
        Due.row(Edge.line(5, "1=swing(1-3)x1 stop"), 0, 1, 2, 3, 2, 0);
        Due.row(Edge.line(4, "1=swing(1)x3 stop"), 0, 1, 1, 1, 0);
        Due.row(Edge.line(6, "1=swing(1 2)x2 stop"), 0, 1, 2, 1, 2, 0, 0);
        // By holds: alike ones are not one, and each comes back as long as it is.
        Due.row(Edge.line(6, "1=swing(1 1 2)stop"), 0, 1, 1, 2, 1, 0, 0);
        Due.row(Edge.line(6, "1=swing(1x2 2)stop"), 0, 1, 1, 2, 0, 0, 0);
        Due.row(Edge.line(8, "2=swing(1 2 3x1)stop"), 0, 1, 1, 2, 2, 3, 2, 2, 0);
        Due.row(Edge.line(6, "1=swing(1 blank 3)stop"), 0, 1, 0, 3, 0, 0, 0);
        Due.row(Edge.line(6, "2=swing(1 2)stop"), 0, 1, 1, 2, 2, 0, 0);
        Due.row(Edge.line(8, "1=swing(1 2 3x3)stop"), 0, 1, 2, 3, 3, 3, 2, 0, 0);
        Due.row(Edge.line(6, "1=9 swing(1-3)8"), 0, 9, 1, 2, 3, 2, 8);
        Due.row(Edge.line(8, "1=swing((1 2)x2 3)stop"), 0, 1, 2, 1, 2, 3, 2, 1, 2);
        Due.row(Edge.line(8, "1=swing(1 swing(2-4))stop"), 0, 1, 2, 3, 4, 3, 4, 3, 2);
        Due.row(Edge.line(7, "1=swing(1-4)loop"), 0, 1, 2, 3, 4, 3, 2, 1);
        // Cut at the last frame, on its way there and on its way back.
        Due.row(Edge.line(3, "1=swing(1-4)9"), 0, 1, 2, 3);
        Due.row(Edge.line(5, "1=swing(1-4)9"), 0, 1, 2, 3, 4, 3);
        Due.row(Edge.line(6, "1=swing(1-4)9"), 0, 1, 2, 3, 4, 3, 2);
        CelSheet x = Edge.line(96, "1=swing(1-49)99");
        due("the greatest of a swing", x.at(0, 48), 49);
        due("behind it", x.at(0, 49), 48);
        due("its last", x.at(0, 95), 2);
        due("one less goes further", Edge.line(96, "1=swing(1-48)99").at(0, 94), 99);
        due("its last then", Edge.line(96, "1=swing(1-48)99").at(0, 93), 2);
        due("a swing of 96", Edge.line(96, "1=swing(1-96)99").at(0, 95), 96);
        due("a swing of 95", Edge.line(96, "1=swing(1-95)99").at(0, 95), 94);
    }

    /** The 512th call is answered as the first one. */
    private static void manyCalls() {
        CelSheet x = new CelSheet();
        x.feed(0x6672616d, 0x65732032, 0x3b6c6179, 0x65722061, 0x206f6e20);
        x.feed(0x313d313b, BLANKS, BLANKS, BLANKS, BLANKS);
        due("scene", x.scene(), 2);
        for (int call = 4; call < 512; call++) {
            due("call " + call, x.expose(0, 1, 1, 2 + call % 2), 1);
        }
        due("call 512", x.at(0, 1), 3);
    }
}
