/** Each promise of the document with answers worked out by hand: ordinary, at the edges, wrong. */
public final class PromisesTest {
    private static final int NONE = CelSheet.NONE;
    private static final int NOTHING = CelSheet.NOTHING;

    private PromisesTest() {
    }

    private static void due(String what, int got, int want) {
        Due.due(what, got, want);
    }

    public static void main(String[] args) {
        newObject();
        feedAndEnd();
        sceneAndFault();
        faultsOfForm();
        faultsOfNumbers();
        faultsOfNames();
        faultsOfMany();
        lines();
        named();
        look();
        layer();
        spelt();
        box();
        atAndTold();
        hold();
        find();
        cycle();
        marks();
        shift();
        hidden();
        cellAndTop();
        inkAndSeen();
        sameAndLike();
        take();
        still();
        changes();
        saved();
        turnedAndBest();
        without();
        doubled();
        expose();
        push();
        pull();
        turn();
        raise();
        twos();
        undo();
        kept();
        sceneAfterScene();
        Due.end("PromisesTest");
    }

    private static void newObject() {
        CelSheet x = new CelSheet();
        due("NONE", CelSheet.NONE, -1);
        due("NOTHING", CelSheet.NOTHING, Integer.MIN_VALUE);
        for (int what = 0; what <= 6; what++) {
            due("new look(" + what + ")", x.look(what), 0);
        }
        due("new fault(0)", x.fault(0), 0);
        due("new fault(1)", x.fault(1), NONE);
        due("new fault(2)", x.fault(2), NONE);
        due("new fault(-1)", x.fault(-1), NONE);
        due("new named()", x.named(), NONE);
        due("new layer", x.layer(0, 0), NONE);
        due("new at", x.at(0, 0), NONE);
        due("new told", x.told(0, 0), NONE);
        due("new box", x.box(0, 0), NONE);
        due("new marks", x.marks(0), NONE);
        due("new shift", x.shift(0, 0, 0), NOTHING);
        due("new cell", x.cell(0, 0, 0), NONE);
        due("new top", x.top(0, 0, 0), NONE);
        due("new take(-1)", x.take(NONE), 0);
        due("new take(0)", x.take(0), NONE);
        due("new still", x.still(0), NONE);
        due("new still(2)", x.still(2), NONE);
        for (int what = 0; what < 5; what++) {
            due("new saved", x.saved(what), NONE);
        }
        due("new best", x.best(0, 0), NONE);
        due("new expose", x.expose(0, 0, 0, 1), -2);
        due("new raise", x.raise(0), -2);
        due("new undo", x.undo(), -3);
        due("new keep(1)", x.keep(1), -3);
        due("new keep(2)", x.keep(2), -2);
        due("new back(1)", x.back(1), -3);
        due("new back(-1)", x.back(-1), -2);
        due("new apart(1)", x.apart(1), -3);
        due("new apart(2)", x.apart(2), -2);
    }

    private static void feedAndEnd() {
        CelSheet x = new CelSheet();
        for (int n = 1; n <= 60; n++) {
            due("feed " + n, x.feed(0x20202020, 0x20202020, 0x20202020, 0x20202020, 0x20202020), 20 * n);
        }
        due("feed of a full tape", x.feed(0, 0, 0, 0, 0), NONE);
        due("look(6) of a full tape", x.look(6), 1200);
        Due.due("end(1201)", x.end(1201), false);
        Due.due("end(-1)", x.end(-1), false);
        Due.due("end(1200)", x.end(1200), true);
        Due.due("end(1181)", x.end(1181), true);
        due("feed of 1181", x.feed(0, 0, 0, 0, 0), NONE);
        due("look(6) still", x.look(6), 1181);
        Due.due("end(1180)", x.end(1180), true);
        due("feed of 1180", x.feed(0, 0, 0, 0, 0), 1200);
        Due.due("end(0)", x.end(0), true);
        Due.due("end(1) of none", x.end(1), false);
        due("look(6) of none", x.look(6), 0);
        // The highest byte first, all twenty: "frames 2;layer a on " and "1=1;" with blanks behind.
        x.feed(0x6672616d, 0x65732032, 0x3b6c6179, 0x65722061, 0x206f6e20);
        x.feed(0x313d393b, 0x0a202020, 0x0a0a0a0a, 0x20202020, 0x20202020);
        due("scene() as fed", x.scene(), 2);
        due("at(0, 1) as fed", x.at(0, 1), 9);
        // A byte above 127 is no sign of the language.
        x.feed(0xe9202020, 0x20202020, 0x20202020, 0x20202020, 0x20202020);
        due("scene() of byte 233", x.scene(), NONE);
        due("fault(1) of byte 233", x.fault(1), 0);
    }

    private static void sceneAndFault() {
        CelSheet x = Due.sheet("frames 4; layer a on 1 = 1-4; cel a 1 at 0 0 size 1 1 ink 1;");
        due("look(6) behind scene()", x.look(6), 0);
        due("fault(0) of a sound one", x.fault(0), 0);
        due("fault(1) of a sound one", x.fault(1), NONE);
        due("turn", x.turn(0, 1), 4);
        due("keep", x.keep(0), 4);
        due("scene() with a fault", Due.scene(x, "frames 4; layer a on 1 = ;"), NONE);
        due("fault(0) then", x.fault(0), 1);
        due("fault(1) then", x.fault(1), 25);
        due("tape behind a fault", x.look(6), 0);
        Due.row(x, 0, 2, 3, 4, 1);
        due("boxes stay", x.look(2), 1);
        due("what can be undone stays", x.look(5), 1);
        due("what is kept stays", x.apart(0), 0);
        due("undo behind a fault", x.undo(), 0);
        due("turn again", x.turn(0, 2), 4);
        due("scene() again", Due.scene(x, "frames 4; layer b on 1 = 5;"), 2);
        due("fault(0) again", x.fault(0), 0);
        due("undo behind scene()", x.undo(), -3);
        due("apart behind scene()", x.apart(0), -3);
        due("boxes are gone", x.look(2), 0);
        Due.row(x, 0, 5, 5, 5, 5);
        // Blanks where one likes, or none at all.
        due("packed", Due.scene(x, "frames4;layer a on1=1x2swing(2-4)x2loop;"
                + "cel a1at0 0size1 1ink9;slide a from0to3right1up2;hide a from1to2;"), 5);
        due("spread", Due.scene(x, "\n frames\n4 ; layer a on 1 = 1 - 3 x 2 ( 2 ) x 2 stop ; \n"), 2);
        // No tape has room for 60 statements; this one has as many as there is room for.
        due("58 statements", Due.scene(x, crowd()), 58);
        due("boxes of 58", x.look(2), 39);
        due("hides of 58", x.look(4), 12);
        due("layers of 58", x.look(1), 6);
    }

    private static String crowd() {
        return "frames9;layer a on1=1;layer b on1=1;layer c on1=1;layer d on1=1;layer e on1=1;layer f on1=1;"
                + many(39, "cel a1at0 0size1 1ink1;") + many(12, "hide a from0to1;");
    }

    private static String many(int n, String text) {
        StringBuilder b = new StringBuilder();
        for (int i = 0; i < n; i++) {
            b.append(text);
        }
        return b.toString();
    }

    private static void faultsOfForm() {
        Due.fault("", 1, 0);
        Due.fault(" \n ", 1, 3);
        Due.fault("layer a on 1 = 1;", 1, 0);
        Due.fault(" cel a 1 at 0 0 size 1 1 ink 1;", 1, 1);
        Due.fault("frame 8;", 1, 0);
        Due.fault("framess 8;", 1, 0);
        Due.fault("Frames 8;", 1, 0);
        Due.fault("frames;", 1, 6);
        Due.fault("frames 8", 1, 8);
        Due.fault("frames 8 ", 1, 9);
        Due.fault("frames 0008;", 1, 7);
        Due.fault("frames 8 8;", 1, 9);
        Due.fault("frames 8; ;", 1, 10);
        Due.fault("frames 8; frames 8;", 1, 10);
        Due.fault("frames 8; layer a on 1 = 1; frames 8;", 1, 28);
        Due.fault("frames 8; layer 1", 1, 16);
        Due.fault("frames 8; layer abcdefg on 1 = 1;", 1, 16);
        Due.fault("frames 8; layer a b on 1 = 1;", 1, 18);
        Due.fault("frames 8; layer aB on 1 = 1;", 1, 17);
        for (String word : NaiveSheet.LANGUAGE) {
            Due.fault("frames 8; layer " + word + " on 1 = 1;", 1, 16);
            Due.fault("frames 8; hide " + word + " from 1 to 1;", 1, 15);
        }
        Due.fault("frames 8; layer a 1 = 1;", 1, 18);
        Due.fault("frames 8; layer a on = 1;", 1, 21);
        Due.fault("frames 8; layer a on 1 1;", 1, 23);
        Due.fault("frames 8; layer a on 1 = loop;", 1, 25);
        Due.fault("frames 8; layer a on 1 = 1 loop stop;", 1, 32);
        Due.fault("frames 8; layer a on 1 = 1 -;", 1, 28);
        Due.fault("frames 8; layer a on 1 = - 1;", 1, 25);
        Due.fault("frames 8; layer a on 1 = 1 - 2 - 3;", 1, 31);
        Due.fault("frames 8; layer a on 1 = 1 - blank;", 1, 29);
        Due.fault("frames 8; layer a on 1 = blank - 1;", 1, 31);
        Due.fault("frames 8; layer a on 1 = 1 x;", 1, 28);
        Due.fault("frames 8; layer a on 1 = 1 x 2 x 2;", 1, 31);
        Due.fault("frames 8; layer a on 1 = x 2;", 1, 25);
        Due.fault("frames 8; layer a on 1 = 1 xx 2;", 1, 27);
        Due.fault("frames 8; layer a on 1 = ();", 1, 26);
        Due.fault("frames 8; layer a on 1 = (1;", 1, 27);
        Due.fault("frames 8; layer a on 1 = (1 loop);", 1, 28);
        Due.fault("frames 8; layer a on 1 = 1);", 1, 26);
        Due.fault("frames 8; layer a on 1 = (1", 1, 27);
        Due.fault("frames 8; layer a on 1 = swing 1;", 1, 31);
        Due.fault("frames 8; layer a on 1 = swing swing (1);", 1, 31);
        Due.fault("frames 8; layer a on 1 = swing();", 1, 31);
        Due.fault("frames 8; layer a on 1 = 1, 2;", 1, 26);
        Due.fault("frames 8; layer a on 1 = 1\t2;", 1, 26);
        Due.fault("frames 8; layer a on 1 = 1 0001;", 1, 27);
        String a = "frames 8;layer a on 1=1;";
        Due.fault(a + "cel a at", 1, 30);
        Due.fault(a + "cel a 1 on", 1, 32);
        Due.fault(a + "cel a 1 at 1 size", 1, 37);
        Due.fault(a + "cel a 1 at 1 1 1", 1, 39);
        Due.fault(a + "cel a 1 at 1 1 size 1 1 1", 1, 48);
        Due.fault(a + "cel a 1 at 1 1 size 1 1 ink;", 1, 51);
        Due.fault(a + "slide a to 1", 1, 32);
        Due.fault(a + "slide a from 1 from", 1, 39);
        Due.fault(a + "slide a from 1 to 1 down 1 left 1;", 1, 44);
        Due.fault(a + "slide a from 1 to 1 left 1 left 1;", 1, 51);
        Due.fault(a + "slide a from 1 to 1 left 1;", 1, 50);
        Due.fault(a + "hide a from 1;", 1, 37);
        Due.fault(a + "hide a from 1 to 1", 1, 42);
    }

    private static void faultsOfNumbers() {
        Due.fault("frames 0;", 2, 7);
        Due.fault("frames 97;", 2, 7);
        Due.fault("frames 999;", 2, 7);
        Due.sheet("frames 096; layer a on 024 = 001 x 096;");
        Due.fault("frames 8; layer a on 0 = 1;", 2, 21);
        Due.fault("frames 8; layer a on 25 = 1;", 2, 21);
        Due.fault("frames 8; layer a on 1 = 0;", 2, 25);
        Due.fault("frames 8; layer a on 1 = 100;", 2, 25);
        Due.fault("frames 8; layer a on 1 = 1-0;", 2, 27);
        Due.fault("frames 8; layer a on 1 = 1-100;", 2, 27);
        Due.fault("frames 8; layer a on 1 = 1x0;", 2, 27);
        Due.fault("frames 8; layer a on 1 = 1x97;", 2, 27);
        Due.fault("frames 8; layer a on 1 = blank x 0;", 2, 33);
        Due.fault("frames 8; layer a on 1 = (1)x97;", 2, 29);
        String a = "frames 8;layer a on 1=1;";
        String[] cel = {"cel a ", "1", " at ", "0", " ", "0", " size ", "1", " ", "1", " ink ", "1", ";"};
        int[] low = {1, 0, 0, 1, 1, 1};
        int[] high = {99, 11, 7, 12, 8, 9};
        for (int i = 0; i < 6; i++) {
            for (int n : new int[] {low[i] - 1, low[i], high[i], high[i] + 1}) {
                StringBuilder b = new StringBuilder(a);
                int place = 0;
                for (int k = 0; k < cel.length; k++) {
                    place = k == 2 * i + 1 ? b.length() : place;
                    b.append(k == 2 * i + 1 ? String.valueOf(n) : cel[k]);
                }
                if (n >= low[i] && n <= high[i]) {
                    Due.sheet(b.toString());
                } else if (n >= 0) {
                    Due.fault(b.toString(), 2, place);
                }
            }
        }
        Due.sheet(a + "hide a from 0 to 7;slide a from 7 to 7 right 9 down 0;");
        Due.fault(a + "hide a from 8 to 8;", 2, 36);
        Due.fault(a + "hide a from 0 to 8;", 2, 41);
        Due.fault(a + "hide a from 5 to 4;", 2, 41);
        Due.fault(a + "slide a from 8 to 8 left 1 up 1;", 2, 37);
        Due.fault(a + "slide a from 3 to 2 left 1 up 1;", 2, 42);
        Due.fault(a + "slide a from 3 to 3 left 10 up 1;", 2, 49);
        Due.fault(a + "slide a from 3 to 3 left 1 up 10;", 2, 54);
        // The first by its place.
        Due.fault("frames 8; layer a on 1 = 0 0001;", 2, 25);
        Due.fault("frames 97; layer", 2, 7);
    }

    private static void faultsOfNames() {
        String a = "frames 8;layer ab on 1=1;";
        Due.fault(a + "layer ab on 1=1;", 3, 31);
        Due.fault(a + "layer ab on 0=1;", 3, 31);
        Due.sheet(a + "layer a on 1=1;layer b on 1=1;layer abc on 1=1;layer abcdef on 1=1;");
        Due.fault(a + "cel a 1 at 0 0 size 1 1 ink 1;", 3, 29);
        Due.fault(a + "cel abc 1 at 0 0 size 1 1 ink 1;", 3, 29);
        Due.fault(a + "cel ac 1 at 0 0 size 1 1 ink 1;", 3, 29);
        Due.fault(a + "slide b from 1 to 1 left 1 up 1;", 3, 31);
        Due.fault(a + "hide b from 1 to 1;", 3, 30);
        Due.fault(a + "hide b from 1 to 1;layer b on 1=1;", 3, 30);
        Due.fault("frames 8;cel b 1", 3, 13);
        Due.fault("frames 8;", 5, 9);
        Due.fault("frames 8; \n", 5, 11);
    }

    private static void faultsOfMany() {
        String six = "frames 9;layer a on 1=1;layer b on 1=1;layer c on 1=1;layer d on 1=1;"
                + "layer e on 1=1;layer f on 1=1;";
        due("six layers", Due.sheet(six).look(1), 6);
        Due.fault(six + "\nlayer g on 1=1;", 4, six.length() + 1);
        Due.fault(six + "\nlayer a on 1=1;", 4, six.length() + 1);
        Due.fault(six + "\nlayer;", 4, six.length() + 1);
        String one = "frames 9;layer a on 1=1;";
        String boxes = one + many(40, "cel a 1at 0 0size 1 1ink 1;");
        due("forty boxes", Due.sheet(boxes).look(2), 40);
        Due.fault(boxes + "cel a 1 at 0 0 size 1 1 ink 1;", 4, boxes.length());
        Due.fault(boxes + "cel b", 4, boxes.length());
        String slides = one + many(12, "slide a from 0 to 0 left 0 up 0;");
        due("twelve slides", Due.sheet(slides).look(3), 12);
        Due.fault(slides + "slide a from 0 to 0 left 0 up 0;", 4, slides.length());
        String hides = one + many(12, "hide a from 0 to 0;");
        due("twelve hides", Due.sheet(hides).look(4), 12);
        Due.fault(hides + "hide a from 0 to 0;", 4, hides.length());
        Due.sheet("frames 9;layer a on 1=(((((1)))));");
        Due.fault("frames 9;layer a on 1=((((((1))))));", 4, 27);
        Due.fault("frames 9;layer a on 1=(((((swing (1))))));", 4, 33);
        Due.sheet("frames 9;layer a on 1=((((1))))(((((1)))));");
        String parts = one + "layer b on 1=" + many(40, "1 ");
        Due.sheet(parts + ";");
        Due.fault(parts + "1;", 4, parts.length());
        Due.fault(parts + "blank;", 4, parts.length());
        Due.fault(parts + "swing;", 4, parts.length());
        Due.fault(parts + "(1);", 4, parts.length());
        Due.fault(parts + "0;", 2, parts.length());
        Due.fault(parts + "100;", 2, parts.length());
        Due.fault(parts + "0001;", 1, parts.length());
        Due.fault(parts + "1-0;", 4, parts.length());
        // Those within others count, too: a bracket and two numbers are three.
        String within = one + "layer b on 1=" + many(13, "(1 2)");
        Due.sheet(within + "1;");
        Due.fault(within + "1 1;", 4, within.length() + 2);
        Due.fault(within + "(1)", 4, within.length() + 1);
        Due.fault("frames 9;layer a on 1=" + many(40, "1 ") + "x 1 1;", 4, 22 + 80 + 4);
        // Each line has its own.
        Due.sheet("frames 9;layer a on 1=" + many(40, "1 ") + ";layer b on 1=" + many(40, "1 ") + ";");
    }

    private static CelSheet line(int frames, String line) {
        return Due.sheet("frames " + frames + ";layer a on " + line + ";");
    }

    private static void lines() {
        Due.row(line(4, "2=1 3"), 0, 1, 1, 3, 3);
        Due.row(line(6, "2=1 3"), 0, 1, 1, 3, 3, 3, 3);
        Due.row(line(6, "2=1 3 stop"), 0, 1, 1, 3, 3, 0, 0);
        Due.row(line(7, "2=1 3 loop"), 0, 1, 1, 3, 3, 1, 1, 3);
        Due.row(line(3, "2=1 3 stop"), 0, 1, 1, 3);
        Due.row(line(5, "1=4-2"), 0, 4, 3, 2, 2, 2);
        Due.row(line(5, "1=4-4"), 0, 4, 4, 4, 4, 4);
        Due.row(line(6, "1=4-2x2"), 0, 4, 4, 3, 3, 2, 2);
        Due.row(line(6, "3=9x1 blank 9x2"), 0, 9, 0, 0, 0, 9, 9);
        Due.row(line(5, "1=9 blank x2 loop"), 0, 9, 0, 0, 9, 0);
        Due.row(line(4, "1=9 blank"), 0, 9, 0, 0, 0);
        Due.row(line(6, "1=(1 2)x2 3"), 0, 1, 2, 1, 2, 3, 3);
        Due.row(line(6, "1=(1 2)3"), 0, 1, 2, 3, 3, 3, 3);
        Due.row(line(9, "1=swing(1-3)x2 stop"), 0, 1, 2, 3, 2, 1, 2, 3, 2, 0);
        Due.row(line(6, "1=swing(1 2)x2 stop"), 0, 1, 2, 1, 2, 0, 0);
        Due.row(line(6, "1=swing(7)x2 stop"), 0, 7, 7, 0, 0, 0, 0);
        // A swing goes by holds, not by frames or unlike drawings.
        Due.row(line(8, "1=swing(1 x2 2 3 x3)stop"), 0, 1, 1, 2, 3, 3, 3, 2, 0);
        Due.row(line(8, "1=swing(1 1 1 2)stop"), 0, 1, 1, 1, 2, 1, 1, 0, 0);
        Due.row(line(12, "1=swing(1 (2 3)x2 blank)stop"), 0, 1, 2, 3, 2, 3, 0, 3, 2, 3, 2, 0, 0);
        Due.row(line(10, "1=swing(swing(1-3)4)stop"), 0, 1, 2, 3, 2, 4, 2, 3, 2, 0, 0);
        Due.row(line(8, "1=swing(1-99)x96"), 0, 1, 2, 3, 4, 5, 6, 7, 8);
        Due.row(line(4, "24=((((1-99)x96)x96)x96)x96 loop"), 0, 1, 1, 1, 1);
        CelSheet x = line(96, "1=swing(1-40)2");
        due("swing at 39", x.at(0, 39), 40);
        due("swing at 40", x.at(0, 40), 39);
        due("swing at 77", x.at(0, 77), 2);
        due("swing at 78", x.at(0, 78), 2);
        x = line(96, "1=swing(1-60)99");
        due("long swing at 95", x.at(0, 95), 24);
    }

    private static void named() {
        CelSheet x = Due.sheet("frames 2;layer ab on 1=1;layer abc on 1=1;layer z on 1=1;");
        String[] texts = {"ab", "abc", " \nz\n ", "a", "abcd", "", " ", "ab c", "ab;", "ab1", "1", "AB", "z z"};
        int[] layers = {0, 1, 2, NONE, NONE, NONE, NONE, NONE, NONE, NONE, NONE, NONE, NONE};
        for (int i = 0; i < texts.length; i++) {
            Due.tell(x, texts[i]);
            due("named() of '" + texts[i] + "'", x.named(), layers[i]);
            due("tape behind named()", x.look(6), 0);
        }
        Due.scene(x, "frames 2; layer");
        Due.tell(x, "z");
        due("named() behind a fault", x.named(), 2);
        due("fault(0) behind named()", x.fault(0), 1);
        Due.scene(x, "frames 2; layer a on 1=1;");
        Due.tell(x, "z");
        due("named() of a former scene", x.named(), NONE);
    }

    private static CelSheet rich() {
        return Due.sheet("frames 12;"
                + "layer sky on 4=1x3 2 stop;"
                + "layer arm on 1=swing(1-3)loop;"
                + "layer eyes on 2=5 6x1 (5 6x1)x1 blank;"
                + "cel sky 1 at 0 0 size 12 8 ink 1;cel sky 2 at 0 0 size 12 8 ink 2;"
                + "cel arm 1 at 2 1 size 2 2 ink 3;cel arm 2 at 3 1 size 2 2 ink 4;"
                + "cel arm 3 at 4 1 size 2 2 ink 3;cel eyes 5 at 10 6 size 4 4 ink 5;"
                + "cel eyes 5 at 11 7 size 1 1 ink 6;slide eyes from 2 to 3 left 1 up 2;"
                + "hide arm from 0 to 1;");
    }

    private static void look() {
        CelSheet x = rich();
        int[] want = {12, 3, 7, 1, 1, 0, 0, NONE};
        for (int what = 0; what < want.length; what++) {
            due("look(" + what + ")", x.look(what), want[what]);
        }
        due("look(-1)", x.look(-1), NONE);
        x.raise(0);
        x.turn(0, 1);
        due("look(5)", x.look(5), 2);
        Due.tell(x, "abc");
        due("look(6)", x.look(6), 3);
    }

    private static void layer() {
        CelSheet x = line(10, "7=1 x2 3 x1 blank x1 9 x1 8 x1 3 x2 blank x1");
        // 1 1 3 0 9 8 3 3 0 0
        int[] want = {7, 0, 7, 4, 7, 2, 9, NONE};
        for (int what = 0; what < want.length; what++) {
            due("layer(0, " + what + ")", x.layer(0, what), want[what]);
        }
        due("layer(0, -1)", x.layer(0, -1), NONE);
        due("layer(1, 0)", x.layer(1, 0), NONE);
        due("layer(-1, 0)", x.layer(-1, 0), NONE);
        x.expose(0, 0, 9, 0);
        int[] blank = {7, 0, 1, 0, 0, 0, 0};
        for (int what = 0; what < blank.length; what++) {
            due("blank layer(0, " + what + ")", x.layer(0, what), blank[what]);
        }
        x = line(4, "1=1 99 64 63");
        due("unlike of 99", x.layer(0, 3), 4);
        due("jumps of 99", x.layer(0, 5), 2);
        due("greatest", x.layer(0, 6), 99);
        due("jumps over a blank", line(5, "1=1 blank 9 blank 5").layer(0, 5), 0);
        due("jumps ahead of a blank", line(5, "1=1 9 blank 9 5").layer(0, 5), 2);
        due("jumps down", line(5, "1=9 7 6 5 3").layer(0, 5), 2);
    }

    private static void spelt() {
        CelSheet x = Due.sheet("frames 2;layer az on 1=1;layer qwerty on 1=1;");
        due("spelt(0, -1)", x.spelt(0, NONE), 2);
        due("spelt(0, 0)", x.spelt(0, 0), 'a');
        due("spelt(0, 1)", x.spelt(0, 1), 'z');
        due("spelt(0, 2)", x.spelt(0, 2), NONE);
        due("spelt(0, -2)", x.spelt(0, -2), NONE);
        due("spelt(1, -1)", x.spelt(1, NONE), 6);
        due("spelt(1, 5)", x.spelt(1, 5), 'y');
        due("spelt(1, 6)", x.spelt(1, 6), NONE);
        due("spelt(2, -1)", x.spelt(2, NONE), NONE);
        due("spelt(-1, 0)", x.spelt(-1, 0), NONE);
    }

    private static void box() {
        CelSheet x = rich();
        int[] want = {2, 5, 10, 6, 4, 4, 5, NONE};
        for (int what = 0; what < want.length; what++) {
            due("box(5, " + what + ")", x.box(5, what), want[what]);
        }
        due("box(0, 0)", x.box(0, 0), 0);
        due("box(6, 6)", x.box(6, 6), 6);
        due("box(7, 0)", x.box(7, 0), NONE);
        due("box(-1, 0)", x.box(-1, 0), NONE);
        due("box(0, -1)", x.box(0, -1), NONE);
    }

    private static void atAndTold() {
        CelSheet x = line(4, "1=3 blank 5");
        Due.row(x, 0, 3, 0, 5, 5);
        x.expose(0, 1, 2, 7);
        Due.row(x, 0, 3, 7, 7, 5);
        due("told(0, 1)", x.told(0, 1), 0);
        due("told(0, 2)", x.told(0, 2), 5);
        due("told(0, 3)", x.told(0, 3), 5);
        for (int[] odd : new int[][] {{0, 4}, {0, -1}, {1, 0}, {-1, 0}, {6, 0}, {0, 96}}) {
            due("at of none", x.at(odd[0], odd[1]), NONE);
            due("told of none", x.told(odd[0], odd[1]), NONE);
            due("hold of none", x.hold(odd[0], odd[1], 0), NONE);
            due("shift of none", x.shift(odd[0], odd[1], 0), NOTHING);
            due("hidden of none", x.hidden(odd[0], odd[1]), NONE);
            due("seen of none", x.seen(odd[0], odd[1]), NONE);
        }
    }

    private static void hold() {
        CelSheet x = line(8, "2=1 1 blank x3 4 x1");
        int[] first = {0, 0, 0, 0, 4, 4, 4, 7};
        int[] length = {4, 4, 4, 4, 3, 3, 3, 1};
        int[] which = {0, 0, 0, 0, 1, 1, 1, 2};
        for (int f = 0; f < 8; f++) {
            due("hold(0, " + f + ", 0)", x.hold(0, f, 0), first[f]);
            due("hold(0, " + f + ", 1)", x.hold(0, f, 1), length[f]);
            due("hold(0, " + f + ", 2)", x.hold(0, f, 2), which[f]);
        }
        due("hold(0, 0, 3)", x.hold(0, 0, 3), NONE);
        due("hold(0, 0, -1)", x.hold(0, 0, -1), NONE);
    }

    private static void find() {
        CelSheet x = line(8, "1=1 blank 1 99 blank 1 1 1");
        int[] ones = {0, 2, 5, 6, 7, NONE};
        for (int k = 0; k < ones.length; k++) {
            due("find(0, 1, " + k + ")", x.find(0, 1, k), ones[k]);
        }
        due("find(0, 0, 1)", x.find(0, 0, 1), 4);
        due("find(0, 0, 2)", x.find(0, 0, 2), NONE);
        due("find(0, 99, 0)", x.find(0, 99, 0), 3);
        due("find(0, 100, 0)", x.find(0, 100, 0), NONE);
        due("find(0, -1, 0)", x.find(0, -1, 0), NONE);
        due("find(0, 1, -1)", x.find(0, 1, -1), NONE);
        due("find(1, 1, 0)", x.find(1, 1, 0), NONE);
        due("find(1, 0, 0)", x.find(1, 0, 0), NONE);
        due("find(-1, 0, 0)", x.find(-1, 0, 0), NONE);
        due("find(0, 5, 0)", x.find(0, 5, 0), NONE);
    }

    private static void theCycle(String line, int frames, int begin, int period, int rounds, int closes) {
        CelSheet x = line(frames, line);
        due("begin of " + line, x.cycle(0, 0), begin);
        due("period of " + line, x.cycle(0, 1), period);
        due("rounds of " + line, x.cycle(0, 2), rounds);
        due("closes of " + line, x.cycle(0, 3), closes);
        due("cycle(0, 4)", x.cycle(0, 4), NONE);
        due("cycle(0, -1)", x.cycle(0, -1), NONE);
        due("cycle(1, 0)", x.cycle(1, 0), NONE);
    }

    private static void theCycle(String line, int frames) {
        theCycle(line, frames, NONE, NONE, NONE, NONE);
    }

    private static void cycle() {
        theCycle("1=swing(1-3)loop", 12, 0, 4, 3, 1);
        theCycle("1=1-3 loop", 12, 0, 3, 4, 0);
        theCycle("1=1-3 loop", 6, 0, 3, 2, 0);
        theCycle("1=1-3 loop", 5);
        theCycle("1=1 2 loop", 7, 0, 2, 3, 1);
        theCycle("1=9 9 (1 2)x20", 8, 2, 2, 3, 1);
        theCycle("1=9 1 2 1 2", 5, 1, 2, 2, 1);
        theCycle("1=9 8 1 2 1 2 1", 7, 2, 2, 2, 1);
        // What goes round may be partly blank; then it does not close, if an end is.
        theCycle("1=1 blank loop", 8, 0, 2, 4, 0);
        theCycle("1=blank 1 loop", 8, 0, 2, 4, 0);
        theCycle("1=1 blank 2 loop", 6, 0, 3, 2, 1);
        theCycle("1=3 1 2 3 loop", 8, 0, 4, 2, 1);
        // All alike is no cycle, and a row that ends so has none.
        theCycle("1=1", 8);
        theCycle("1=blank", 8);
        theCycle("1=1 2 1 2 1 2 3 3", 8);
        theCycle("1=(1 2)x3 2", 7);
        theCycle("1=1", 1);
        // The least begin goes ahead of the least period: 1 1 2 1 1 2 1 1 rather than what comes later.
        theCycle("1=1 1 2 loop", 8, 0, 3, 2, 1);
        theCycle("1=1 1 2 1 1 2 1 2 1 2 1 2", 12, 4, 2, 4, 1);
        theCycle("1=5 1 2 1 2 5 1 2 1 2", 10, 0, 5, 2, 0);
    }

    private static void theMarks(int want, int frames, String line) {
        due("marks of " + line, line(frames, line).marks(0), want);
    }

    private static void marks() {
        theMarks(1, 6, "1=3");
        theMarks(1, 6, "1=blank");
        theMarks(2, 2, "1=1 5");
        theMarks(2, 9, "1=1-9");
        theMarks(2, 9, "1=9-1");
        theMarks(2, 9, "3=4-6");
        theMarks(4, 4, "1=1 2 5 6");
        // As long each: the last one goes on.
        theMarks(3, 9, "1=1-8");
        // A run has no blank; 2 1 and blank are not a run of three.
        theMarks(3, 3, "1=2 1 blank");
        theMarks(3, 3, "1=blank 1 2");
        theMarks(3, 4, "1=1 5 1 5");
        theMarks(3, 6, "1=(1 blank)x3");
        theMarks(4, 7, "1=(1 blank)x3 1");
        theMarks(3, 6, "1=(1-3)x2");
        theMarks(3, 10, "1=1-6 5-2");
        theMarks(3, 4, "1=1-3 2");
        theMarks(4, 8, "1=swing(1-3)x2");
        theMarks(4, 4, "1=1 5 9 5");
        theMarks(5, 6, "1=1 5 9 20 9 5 stop");
        theMarks(6, 8, "1=1 5 9 20 30 20 9 5");
        theMarks(6, 16, "1=swing((1 5)x2 9 x1)x2");
        // Longer exposures are other ones.
        theMarks(4, 6, "1=1 5 1 5 x3");
        theMarks(3, 6, "1=1 x2 5 x1 1 x2 5 x1");
        CelSheet x = line(4, "1=1-4");
        due("marks ahead", x.marks(0), 2);
        x.expose(0, 1, 1, 9);
        due("marks behind expose", x.marks(0), 4);
        x.undo();
        due("marks behind undo", x.marks(0), 2);
        due("marks(1)", x.marks(1), NONE);
        due("marks(-1)", x.marks(-1), NONE);
    }

    private static void shift() {
        CelSheet x = Due.sheet("frames 6;layer a on 1=1;layer b on 1=1;"
                + "slide a from 1 to 3 right 2 down 1;slide a from 3 to 4 left 3 up 9;slide b from 0 to 5 left 9 down 0;");
        int[] right = {0, 2, 4, 3, 0, 0};
        int[] down = {0, 1, 2, -6, -15, -15};
        for (int f = 0; f < 6; f++) {
            due("shift(0, " + f + ", 0)", x.shift(0, f, 0), right[f]);
            due("shift(0, " + f + ", 1)", x.shift(0, f, 1), down[f]);
            due("shift(1, " + f + ", 0)", x.shift(1, f, 0), -9 * (f + 1));
            due("shift(1, " + f + ", 1)", x.shift(1, f, 1), 0);
        }
        due("shift(0, 0, 2)", x.shift(0, 0, 2), NOTHING);
        due("shift(0, 0, -1)", x.shift(0, 0, -1), NOTHING);
        due("shift(2, 0, 0)", x.shift(2, 0, 0), NOTHING);
        // Slides stay with their frames when a layer is turned, and are gone with their scene.
        x.turn(0, 2);
        due("shift behind turn", x.shift(0, 1, 0), 2);
        Due.scene(x, "frames 6;layer a on 1=1;");
        due("shift of a new scene", x.shift(0, 5, 0), 0);
    }

    private static void hidden() {
        CelSheet x = Due.sheet("frames 6;layer a on 1=1;layer b on 1=1;hide a from 1 to 2;hide a from 2 to 3;hide b from 5 to 5;");
        int[] a = {0, 1, 1, 1, 0, 0};
        int[] b = {0, 0, 0, 0, 0, 1};
        for (int f = 0; f < 6; f++) {
            due("hidden(0, " + f + ")", x.hidden(0, f), a[f]);
            due("hidden(1, " + f + ")", x.hidden(1, f), b[f]);
        }
        Due.scene(x, "frames 6;layer a on 1=1;");
        due("hidden of a new scene", x.hidden(0, 2), 0);
    }

    private static void cellAndTop() {
        CelSheet x = Due.sheet("frames 4;layer a on 1=1;layer b on 1=2;"
                + "cel a 1 at 0 0 size 4 4 ink 3;cel a 1 at 1 1 size 1 1 ink 4;cel a 2 at 0 0 size 12 8 ink 9;"
                + "cel b 2 at 3 3 size 12 8 ink 5;slide b from 1 to 3 right 8 down 4;hide b from 3 to 3;");
        due("cell(0, 0, 0)", x.cell(0, 0, 0), 3);
        due("the box told last", x.cell(0, 1, 1), 4);
        due("the higher layer", x.cell(0, 3, 3), 5);
        due("its layer", x.top(0, 3, 3), 1);
        due("beside it", x.cell(0, 3, 2), 3);
        due("its layer", x.top(0, 3, 2), 0);
        due("the last place", x.cell(0, 11, 7), 5);
        due("paper", x.cell(0, 4, 0), 0);
        due("paper has no layer", x.top(0, 4, 0), NONE);
        due("moved to 11, 7", x.cell(1, 11, 7), 5);
        due("moved from 10, 7", x.cell(1, 10, 7), 0);
        due("moved out", x.ink(2, 5), 0);
        due("hidden", x.cell(3, 3, 3), 3);
        for (int[] odd : new int[][] {{4, 0, 0}, {-1, 0, 0}, {0, 12, 0}, {0, -1, 0}, {0, 0, 8}, {0, 0, -1}}) {
            due("cell of none", x.cell(odd[0], odd[1], odd[2]), NONE);
            due("top of none", x.top(odd[0], odd[1], odd[2]), NONE);
        }
        due("raise", x.raise(0), 1);
        due("the higher layer then", x.cell(0, 3, 3), 3);
        // What stands out at the right comes in when the layer goes left.
        x = Due.sheet("frames 2;layer a on 1=1;cel a 1 at 11 7 size 3 2 ink 7;slide a from 1 to 1 left 2 up 1;");
        due("one place", x.ink(0, 7), 1);
        due("six places", x.ink(1, 7), 6);
        due("from 9", x.cell(1, 9, 6), 7);
        due("to 11", x.cell(1, 11, 7), 7);
        // Moved out to the left and above, partly.
        x = Due.sheet("frames 1;layer a on 1=1;cel a 1 at 1 1 size 5 4 ink 7;slide a from 0 to 0 left 3 up 2;");
        due("three by three", x.ink(0, 7), 9);
        due("its corner", x.cell(0, 2, 2), 7);
        due("beside its corner", x.cell(0, 3, 2), 0);
    }

    private static void inkAndSeen() {
        CelSheet x = Due.sheet("frames 2;layer a on 1=1;layer b on 1=blank x1 1;layer c on 1=1;"
                + "cel a 1 at 0 0 size 3 1 ink 3;cel b 1 at 1 0 size 1 1 ink 3;cel b 1 at 5 5 size 2 2 ink 8;"
                + "cel c 2 at 0 0 size 12 8 ink 1;");
        due("ink(0, 0)", x.ink(0, 0), 93);
        due("ink(0, 3)", x.ink(0, 3), 3);
        due("ink(1, 0)", x.ink(1, 0), 89);
        due("ink(1, 3)", x.ink(1, 3), 3);
        due("ink(1, 8)", x.ink(1, 8), 4);
        due("ink(1, 9)", x.ink(1, 9), 0);
        due("ink(1, 10)", x.ink(1, 10), NONE);
        due("ink(1, -1)", x.ink(1, -1), NONE);
        due("ink(2, 0)", x.ink(2, 0), NONE);
        due("ink(-1, 0)", x.ink(-1, 0), NONE);
        due("seen(0, 0)", x.seen(0, 0), 3);
        due("seen(1, 0)", x.seen(1, 0), 0);
        due("seen(0, 1)", x.seen(0, 1), 2);
        due("seen(1, 1)", x.seen(1, 1), 5);
        due("seen(2, 1)", x.seen(2, 1), 0);
        due("seen(3, 1)", x.seen(3, 1), NONE);
        due("seen(0, 2)", x.seen(0, 2), NONE);
    }

    /** Pictures A A B A C C C B of eight frames. */
    private static CelSheet pictures() {
        return Due.sheet("frames 8;layer a on 1=1 2 3 1 4 4 5 3;"
                + "cel a 1 at 0 0 size 2 1 ink 1;cel a 2 at 0 0 size 1 1 ink 1;cel a 2 at 1 0 size 1 1 ink 1;"
                + "cel a 3 at 0 0 size 2 1 ink 2;");
    }

    private static void sameAndLike() {
        CelSheet x = pictures();
        String all = "AABACCCB";
        for (int f = 0; f < 8; f++) {
            for (int g = 0; g < 8; g++) {
                due("same(" + f + ", " + g + ")", x.same(f, g), all.charAt(f) == all.charAt(g) ? 1 : 0);
            }
        }
        int[] first = {0, 0, 2, 0, 4, 4, 4, 2};
        int[] how = {3, 3, 2, 3, 3, 3, 3, 2};
        for (int f = 0; f < 8; f++) {
            due("like(" + f + ", 0)", x.like(f, 0), first[f]);
            due("like(" + f + ", 1)", x.like(f, 1), how[f]);
        }
        due("same(0, 8)", x.same(0, 8), NONE);
        due("same(8, 0)", x.same(8, 0), NONE);
        due("same(-1, 0)", x.same(-1, 0), NONE);
        due("like(8, 0)", x.like(8, 0), NONE);
        due("like(-1, 0)", x.like(-1, 0), NONE);
        due("like(0, 2)", x.like(0, 2), NONE);
        due("like(0, -1)", x.like(0, -1), NONE);
        x.expose(0, 0, 0, 3);
        due("same behind an act", x.same(0, 1), 0);
        due("like behind an act", x.like(7, 0), 0);
        // Frames are alike by their inks, whichever layer has them.
        x = Due.sheet("frames 2;layer a on 1=1 blank;layer b on 1=blank 1;"
                + "cel a 1 at 0 0 size 1 1 ink 1;cel b 1 at 0 0 size 1 1 ink 1;");
        due("alike by ink", x.same(0, 1), 1);
    }

    private static void take() {
        CelSheet x = pictures();
        int[] want = {0, 2, 4, NONE, NONE};
        for (int k = 0; k < want.length; k++) {
            due("take(" + k + ")", x.take(k), want[k]);
        }
        due("take(-1)", x.take(NONE), 3);
        due("take(-2)", x.take(-2), NONE);
        due("take(MIN)", x.take(Integer.MIN_VALUE), NONE);
        x.expose(0, 7, 7, 4);
        x.expose(0, 2, 2, 4);
        due("takes behind acts", x.take(NONE), 2);
        x.undo();
        due("takes behind undo", x.take(NONE), 3);
        // A box on each place in turn: 96 pictures, and they are told apart.
        StringBuilder text = new StringBuilder("frames 96;layer a on 1=1-12 loop;");
        for (int d = 1; d <= 12; d++) {
            text.append("cel a ").append(d).append(" at ").append(d - 1).append(" 0 size 1 1 ink 1;");
        }
        for (int y = 1; y < 8; y++) {
            text.append("slide a from ").append(12 * y).append(" to ").append(12 * y).append(" right 0 down 1;");
        }
        x = Due.sheet(text.toString());
        due("96 takes", x.take(NONE), 96);
        due("the last take", x.take(95), 95);
        due("96 takes turned", x.turned(0, 5), 96);
        due("96 takes at best", x.best(0, 0), 0);
        due("one more take than there is", x.take(96), NONE);
    }

    private static void still() {
        CelSheet x = pictures();
        due("still(0)", x.still(0), 3);
        due("still(1)", x.still(1), 4);
        due("still(2)", x.still(2), NONE);
        due("still(-1)", x.still(-1), NONE);
        x.expose(0, 6, 6, 3);
        due("of like ones the first: how many", x.still(0), 2);
        due("of like ones the first: which", x.still(1), 0);
        x = line(5, "1=1");
        due("all alike", x.still(0), 5);
        due("all alike from", x.still(1), 0);
    }

    private static void changes() {
        CelSheet x = Due.sheet("frames 3;layer a on 1=1 2 2;layer b on 1=blank x1 3 blank;layer c on 1=1;");
        due("changes(0)", x.changes(0), 2);
        due("changes(1)", x.changes(1), 2);
        due("changes(2)", x.changes(2), 1);
        due("changes(3)", x.changes(3), NONE);
        due("changes(-1)", x.changes(-1), NONE);
    }

    private static void saved() {
        CelSheet x = Due.sheet("frames 6;layer a on 2=1 2 1;layer b on 1=blank 1 1 2 blank 2;"
                + "cel a 1 at 0 0 size 1 1 ink 1;");
        // Frames: A A 0 0 A A. Layer a: 3 exposures, 2 drawings; layer b: 0 1 1 2 0 2.
        due("saved(0)", x.saved(0), 4);
        due("saved(1)", x.saved(1), (6 - 3) + (4 - 3));
        due("saved(2)", x.saved(2), (3 - 2) + (3 - 2));
        due("saved(3)", x.saved(3), 0);
        due("saved(4)", x.saved(4), NONE);
        due("saved(-1)", x.saved(-1), NONE);
        due("saved(3) of a run", line(9, "1=1-9").saved(3), 7);
        due("saved(1) of a run", line(9, "1=1-9").saved(1), 0);
    }

    private static void turnedAndBest() {
        // Layer a: A B A B, layer b: C C D D: four takes; turned by 1 against each other as many.
        CelSheet x = Due.sheet("frames 4;layer a on 1=1 2 1 2;layer b on 1=1 2 1 2;"
                + "cel a 1 at 0 0 size 1 1 ink 1;cel b 1 at 1 0 size 1 1 ink 1;hide b from 3 to 3;");
        // Frames 0 .. 3: ab, -, ab, -: two takes.
        due("turned(0, 0)", x.turned(0, 0), 2);
        // a in 1 and 3, b in 0 and 2: b, a, b, a.
        due("turned(0, 1)", x.turned(0, 1), 2);
        // b in 1 and (hidden) 3: a, b, a, -: three.
        due("turned(1, 1)", x.turned(1, 1), 3);
        due("turned(1, 3)", x.turned(1, 3), 3);
        due("turned(0, 4)", x.turned(0, 4), NONE);
        due("turned(0, -1)", x.turned(0, -1), NONE);
        due("turned(2, 0)", x.turned(2, 0), NONE);
        due("turned(-1, 0)", x.turned(-1, 0), NONE);
        due("nothing is turned", x.at(1, 0), 1);
        due("best(1, 0)", x.best(1, 0), 0);
        due("best(1, 1)", x.best(1, 1), 2);
        due("best(1, 2)", x.best(1, 2), NONE);
        due("best(1, -1)", x.best(1, -1), NONE);
        due("best(2, 0)", x.best(2, 0), NONE);
        // 1 1 2 2 beside 2 1 1 2: turned by 1 (1 1 2 2) they go together.
        x = Due.sheet("frames 4;layer a on 1=1 1 2 2;layer b on 1=2 1 1 2;"
                + "cel a 1 at 0 0 size 1 1 ink 1;cel b 1 at 1 0 size 1 1 ink 1;");
        due("turned apart", x.turned(1, 0), 4);
        due("turned together", x.turned(1, 1), 2);
        due("best(1, 0) of it", x.best(1, 0), 1);
        due("best(1, 1) of it", x.best(1, 1), 2);
        due("best(0, 0) of it", x.best(0, 0), 1);
        x.turn(1, 1);
        due("best behind turn", x.best(1, 0), 0);
        due("takes then", x.take(NONE), 2);
    }

    private static void without() {
        CelSheet x = Due.sheet("frames 4;layer a on 1=1 1 2 2;layer b on 1=2 1 1 2;layer c on 1=1-4;"
                + "cel a 1 at 0 0 size 1 1 ink 1;cel b 1 at 1 0 size 1 1 ink 1;");
        due("without(0)", x.without(0), 2);
        due("without(1)", x.without(1), 2);
        due("without(2)", x.without(2), 4);
        due("without(3)", x.without(3), NONE);
        due("without(-1)", x.without(-1), NONE);
        due("it is not blank", x.at(0, 0), 1);
        due("takes stay", x.take(NONE), 4);
    }

    private static void doubled() {
        CelSheet x = Due.sheet("frames 5;layer a on 1=1 2 2 3 blank;cel a 1 at 0 0 size 1 1 ink 1;"
                + "cel a 2 at 0 0 size 1 1 ink 2;cel a 3 at 0 0 size 1 1 ink 3;");
        // 1 1 2 2 0
        due("doubled(0, 0)", x.doubled(0, 0), 2);
        due("doubled(0, 1)", x.doubled(0, 1), 3);
        due("doubled(0, 2)", x.doubled(0, 2), 3);
        due("doubled(0, 3)", x.doubled(0, 3), NONE);
        due("doubled(0, -1)", x.doubled(0, -1), NONE);
        due("doubled(1, 0)", x.doubled(1, 0), NONE);
        due("it is not doubled", x.at(0, 1), 2);
        due("takes of it", x.take(NONE), 4);
    }

    private static void expose() {
        CelSheet x = line(5, "1=1-5");
        due("expose(0, 1, 3, 3)", x.expose(0, 1, 3, 3), 2);
        Due.row(x, 0, 1, 3, 3, 3, 5);
        due("in none", x.expose(0, 1, 3, 3), -3);
        due("acts", x.look(5), 1);
        due("blank", x.expose(0, 4, 4, 0), 1);
        due("99", x.expose(0, 0, 0, 99), 1);
        Due.row(x, 0, 99, 3, 3, 3, 0);
        int[][] odd = {{1, 0, 0, 1}, {-1, 0, 0, 1}, {0, -1, 0, 1}, {0, 0, 5, 1}, {0, 5, 5, 1}, {0, 2, 1, 1},
            {0, 0, 0, 100}, {0, 0, 0, -1}};
        for (int[] o : odd) {
            due("expose of none", x.expose(o[0], o[1], o[2], o[3]), -2);
        }
        due("acts then", x.look(5), 3);
    }

    private static void push() {
        CelSheet x = line(6, "1=1 2 blank 4 5 6");
        due("push(0, 1, 2)", x.push(0, 1, 2), 2);
        Due.row(x, 0, 1, 2, 2, 2, 0, 4);
        due("push(0, 4, 1)", x.push(0, 4, 1), 1);
        Due.row(x, 0, 1, 2, 2, 2, 0, 0);
        due("push(0, 3, 2)", x.push(0, 3, 2), 0);
        Due.row(x, 0, 1, 2, 2, 2, 2, 2);
        due("push(0, 0, 96)", x.push(0, 0, 96), 6);
        Due.row(x, 0, 1, 1, 1, 1, 1, 1);
        due("push of the last", x.push(0, 5, 3), 1);
        due("acts, that which changed nothing too", x.look(5), 5);
        int[][] odd = {{1, 0, 1}, {-1, 0, 1}, {0, 6, 1}, {0, -1, 1}, {0, 0, 0}, {0, 0, 97}, {0, 0, -1}};
        for (int[] o : odd) {
            due("push of none", x.push(o[0], o[1], o[2]), -2);
        }
        due("undo of push", x.undo(), 4);
        due("undo of push", x.undo(), 3);
        Due.row(x, 0, 1, 2, 2, 2, 2, 2);
    }

    private static void pull() {
        CelSheet x = line(6, "1=1 2 3 4 5 6");
        due("pull(0, 1, 2)", x.pull(0, 1, 2), 4);
        Due.row(x, 0, 1, 4, 5, 6, 6, 6);
        due("pull(0, 4, 2)", x.pull(0, 4, 2), 0);
        due("pull(0, 3, 3)", x.pull(0, 3, 3), 3);
        Due.row(x, 0, 1, 4, 5, 5, 5, 5);
        due("pull(0, 0, 5)", x.pull(0, 0, 5), 2);
        Due.row(x, 0, 5, 5, 5, 5, 5, 5);
        due("pull(0, 0, 6)", x.pull(0, 0, 6), 6);
        Due.row(x, 0, 0, 0, 0, 0, 0, 0);
        due("acts", x.look(5), 5);
        x.undo();
        due("pull(0, 5, 1)", x.pull(0, 5, 1), 0);
        x.expose(0, 5, 5, 3);
        due("pull(0, 5, 1) of another", x.pull(0, 5, 1), 1);
        Due.row(x, 0, 5, 5, 5, 5, 5, 5);
        int[][] odd = {{1, 0, 1}, {-1, 0, 1}, {0, 6, 1}, {0, -1, 1}, {0, 0, 0}, {0, 0, 7}, {0, 5, 2}, {0, 2, 96}};
        for (int[] o : odd) {
            due("pull of none", x.pull(o[0], o[1], o[2]), -2);
        }
        x = line(96, "1=7");
        due("pull of 97", x.pull(0, 0, 97), -2);
        due("pull of all", x.pull(0, 0, 96), 96);
    }

    private static void turn() {
        CelSheet x = line(5, "1=1 2 2 4 5");
        due("turn(0, 1)", x.turn(0, 1), 4);
        Due.row(x, 0, 2, 2, 4, 5, 1);
        due("turn(0, 4)", x.turn(0, 4), 4);
        Due.row(x, 0, 1, 2, 2, 4, 5);
        due("turn(0, 0)", x.turn(0, 0), -2);
        due("turn(0, 5)", x.turn(0, 5), -2);
        due("turn(0, -1)", x.turn(0, -1), -2);
        due("turn(1, 1)", x.turn(1, 1), -2);
        due("turn(-1, 1)", x.turn(-1, 1), -2);
        due("turn of one frame", line(1, "1=1").turn(0, 1), -2);
        x = line(3, "1=1");
        due("turn of all alike", x.turn(0, 1), 0);
        due("it is an act", x.look(5), 1);
    }

    private static void raise() {
        CelSheet x = Due.sheet("frames 1;layer a on 1=1;layer b on 1=1;layer c on 1=1;"
                + "cel a 1 at 0 0 size 1 1 ink 1;cel b 1 at 0 0 size 1 1 ink 2;cel c 1 at 0 0 size 1 1 ink 3;");
        due("the highest", x.cell(0, 0, 0), 3);
        due("raise(0)", x.raise(0), 1);
        due("place of 0", x.layer(0, 1), 1);
        due("place of 1", x.layer(1, 1), 0);
        due("raise(2)", x.raise(2), -3);
        due("raise(0) again", x.raise(0), 2);
        due("raise(0) no more", x.raise(0), -3);
        due("the highest then", x.top(0, 0, 0), 0);
        due("acts", x.look(5), 2);
        CelSheet y = Due.sheet("frames 2;layer a on 1=1;layer b on 1=1 2;"
                + "cel a 1 at 0 0 size 1 1 ink 1;cel b 1 at 0 0 size 1 1 ink 2;");
        due("takes ahead of raise", y.take(NONE), 2);
        due("raise of the lower", y.raise(0), 1);
        due("takes behind raise", y.take(NONE), 1);
        due("undo of it", y.undo(), 0);
        due("takes behind its undo", y.take(NONE), 2);
        due("raise(1)", x.raise(1), 1);
        due("place of 2", x.layer(2, 1), 0);
        due("raise(3)", x.raise(3), -2);
        due("raise(-1)", x.raise(-1), -2);
        due("undo of raise", x.undo(), 2);
        due("place of 2 then", x.layer(2, 1), 1);
        due("raise of one layer", line(1, "1=1").raise(0), -3);
    }

    private static void twos() {
        CelSheet x = line(5, "1=1 2 3 blank 5");
        due("twos(0)", x.twos(0), 2);
        Due.row(x, 0, 1, 1, 3, 3, 5);
        due("twos(0) again", x.twos(0), -3);
        due("acts", x.look(5), 1);
        due("twos(1)", x.twos(1), -2);
        due("twos(-1)", x.twos(-1), -2);
        due("twos of one frame", line(1, "1=1").twos(0), -3);
        x = line(4, "1=1-4");
        due("twos of four", x.twos(0), 2);
        Due.row(x, 0, 1, 1, 3, 3);
    }

    private static void undo() {
        CelSheet x = line(2, "1=1");
        due("undo of none", x.undo(), -3);
        for (int n = 1; n <= 25; n++) {
            x.expose(0, 0, 0, n + 1);
            due("acts", x.look(5), Math.min(n, 20));
        }
        for (int n = 19; n >= 0; n--) {
            due("undo", x.undo(), n);
            due("drawing then", x.at(0, 0), n + 6);
        }
        due("undo no more", x.undo(), -3);
        due("drawing at last", x.at(0, 0), 6);
        x.expose(0, 0, 0, 50);
        due("undo of a new one", x.undo(), 0);
        due("drawing behind it", x.at(0, 0), 6);
    }

    private static void kept() {
        CelSheet x = Due.sheet("frames 3;layer a on 1=1-3;layer b on 1=4-6;cel a 1 at 0 0 size 1 1 ink 1;");
        due("back of nothing", x.back(0), -3);
        due("keep(0)", x.keep(0), 3);
        due("apart(0)", x.apart(0), 0);
        due("apart(1)", x.apart(1), -3);
        due("turn", x.turn(0, 1), 3);
        due("expose", x.expose(1, 2, 2, 9), 1);
        due("raise", x.raise(0), 1);
        due("apart(0) then", x.apart(0), 4);
        due("keep(1)", x.keep(1), 3);
        due("acts stay", x.look(5), 3);
        due("apart(1) then", x.apart(1), 0);
        due("takes", x.take(NONE), 2);
        due("first frame", x.like(2, 0), 2);
        due("back(0)", x.back(0), 3);
        Due.row(x, 0, 1, 2, 3);
        Due.row(x, 1, 4, 5, 6);
        due("place", x.layer(0, 1), 0);
        due("first frame then", x.like(2, 0), 1);
        due("acts are gone", x.look(5), 0);
        due("undo", x.undo(), -3);
        due("apart(1) at last", x.apart(1), 4);
        due("back(1)", x.back(1), 3);
        Due.row(x, 0, 2, 3, 1);
        due("place then", x.layer(0, 1), 1);
        due("back(0) again", x.back(0), 3);
        due("keep anew", x.turn(0, 2), 3);
        due("keep(0) anew", x.keep(0), 3);
        due("undo behind keep", x.undo(), 0);
        due("apart(0) anew", x.apart(0), 3);
        for (int k : new int[] {-1, 2, Integer.MAX_VALUE}) {
            due("keep of none", x.keep(k), -2);
            due("back of none", x.back(k), -2);
            due("apart of none", x.apart(k), -2);
        }
    }

    /** Nothing of a greater scene is left when a smaller one is told. */
    private static void sceneAfterScene() {
        CelSheet x = Due.sheet("frames 96;layer a on 1=(50 60)x48;layer b on 1=99;layer c on 1=1-96;"
                + "cel a 50 at 0 0 size 12 8 ink 9;cel a 1 at 0 0 size 12 8 ink 8;cel b 99 at 0 0 size 1 1 ink 7;"
                + "slide a from 0 to 9 right 1 down 1;hide a from 1 to 1;");
        due("marks", x.marks(0), 3);
        due("takes", x.take(NONE), 5);
        x.raise(0);
        x.keep(1);
        due("scene", Due.scene(x, "frames 5;layer z on 1=1 2 2 blank 3;cel z 1 at 0 0 size 2 1 ink 1;"), 3);
        int[] layer = {1, 0, 4, 3, 4, 0, 3};
        for (int what = 0; what < layer.length; what++) {
            due("layer(0, " + what + ")", x.layer(0, what), layer[what]);
        }
        Due.row(x, 0, 1, 2, 2, 0, 3);
        due("at behind the last frame", x.at(0, 5), NONE);
        due("at of a former layer", x.at(1, 0), NONE);
        due("find of a former drawing", x.find(0, 60, 0), NONE);
        due("spelt", x.spelt(0, NONE), 1);
        due("hold", x.hold(0, 4, 1), 1);
        due("cycle", x.cycle(0, 0), NONE);
        due("marks", x.marks(0), 4);
        due("marks of a former layer", x.marks(1), NONE);
        due("shift", x.shift(0, 4, 0), 0);
        due("hidden", x.hidden(0, 1), 0);
        due("cell", x.cell(0, 0, 0), 1);
        due("cell without box", x.cell(1, 0, 0), 0);
        due("takes", x.take(NONE), 2);
        due("still", x.still(0), 4);
        due("changes", x.changes(4), 1);
        due("saved(0)", x.saved(0), 3);
        due("saved(1)", x.saved(1), 1);
        due("saved(2)", x.saved(2), 0);
        due("saved(3)", x.saved(3), 0);
        due("best", x.best(0, 1), 2);
        due("doubled(0)", x.doubled(0, 0), 2);
        due("doubled(1)", x.doubled(0, 1), 3);
        due("push", x.push(0, 3, 2), 1);
        Due.row(x, 0, 1, 2, 2, 0, 0);
        due("back", x.back(1), -3);
    }
}
