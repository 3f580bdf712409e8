import java.nio.charset.StandardCharsets;

/** What the tests share: counting answers that are due, and putting a text on the tape. */
final class Due {
    private static int right = 0;
    private static int wrong = 0;

    private Due() {
    }

    static void due(String what, long got, long want) {
        if (got == want) {
            right++;
        } else {
            wrong++;
            if (wrong <= 50) {
                System.out.println(what + " answered " + got + ", due is " + want);
            }
        }
    }

    static void due(String what, boolean got, boolean want) {
        due(what, got ? 1 : 0, want ? 1 : 0);
    }

    /** Puts a text behind the tape, twenty bytes a call, and cuts what it is padded with. */
    static boolean tell(CelSheet x, String text) {
        byte[] bytes = text.getBytes(StandardCharsets.ISO_8859_1);
        int ahead = x.look(6);
        for (int i = 0; i < bytes.length; i += 20) {
            int[] n = new int[5];
            for (int k = 0; k < 20; k++) {
                int sign = i + k < bytes.length ? bytes[i + k] & 255 : 32;
                n[k / 4] = n[k / 4] << 8 | sign;
            }
            if (x.feed(n[0], n[1], n[2], n[3], n[4]) == CelSheet.NONE) {
                return false;
            }
        }
        return x.end(ahead + bytes.length);
    }

    static int scene(CelSheet x, String text) {
        if (!tell(x, text)) {
            due("room on the tape for: " + text, 0, 1);
        }
        return x.scene();
    }

    static CelSheet sheet(String text) {
        CelSheet x = new CelSheet();
        int statements = scene(x, text);
        if (statements == CelSheet.NONE) {
            due("a sound scene, fault " + x.fault(0) + " at " + x.fault(1) + " of: " + text, 0, 1);
        }
        return x;
    }

    /** The text has a fault of the kind at the place, whatever was read ahead of it. */
    static void fault(String text, int kind, int place) {
        CelSheet x = new CelSheet();
        fault(x, text, kind, place);
        scene(x, "frames 9;layer b on 3=(1 2)x4;cel b 1 at 0 0 size 1 1 ink 1;hide b from 3 to 4;");
        fault(x, text, kind, place);
        fault(x, text, kind, place);
    }

    private static void fault(CelSheet x, String text, int kind, int place) {
        due("scene() of: " + text, scene(x, text), CelSheet.NONE);
        due("fault(0) of: " + text, x.fault(0), kind);
        due("fault(1) of: " + text, x.fault(1), place);
    }

    /** The drawings of a layer are these. */
    static void row(CelSheet x, int layer, int... drawings) {
        due("FRAMES", x.look(0), drawings.length);
        for (int f = 0; f < drawings.length; f++) {
            due("at(" + layer + ", " + f + ")", x.at(layer, f), drawings[f]);
        }
    }

    static void end(String name) {
        System.out.println(name + ": " + right + " answers as due, " + wrong + " not as due");
        if (wrong != 0) {
            System.exit(1);
        }
    }
}
