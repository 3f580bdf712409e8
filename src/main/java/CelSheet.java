import java.util.Arrays;

/**
 * An exposure sheet: a scene is told as a text, becomes layers of drawings by frames, and is then
 * asked, composed and changed. README.md tells how it is used; the document's promises 1 to 42 are
 * the public methods below, in the document's order.
 */
public final class CelSheet {
    public static final int NONE = -1;
    public static final int NOTHING = Integer.MIN_VALUE;

    private static final int REFUSED = -2;
    private static final int IDLE = -3;

    private static final int MOST_BYTES = 1200;
    private static final int FED_BYTES = 20;
    private static final int MOST_STATEMENTS = 60;
    private static final int MOST_FRAMES = 96;
    private static final int MOST_LAYERS = 6;
    private static final int MOST_BOXES = 40;
    private static final int MOST_SLIDES = 12;
    private static final int MOST_HIDES = 12;
    private static final int MOST_PARTS = 40;
    private static final int MOST_OPEN = 5;
    private static final int MOST_ACTS = 20;
    private static final int MOST_KEPT = 2;
    private static final int MOST_LETTERS = 6;
    private static final int MOST_DIGITS = 3;
    private static final int MOST_DRAWING = 99;
    private static final int MOST_INK = 9;
    private static final int WIDE = 12;
    private static final int HIGH = 8;

    private static final int BOX_FACTS = 7;
    private static final int BOX_LAYER = 0;
    private static final int BOX_DRAWING = 1;
    private static final int BOX_X = 2;
    private static final int BOX_Y = 3;
    private static final int BOX_WIDE = 4;
    private static final int BOX_HIGH = 5;
    private static final int BOX_INK = 6;

    private static final int FAULT_FORM = 1;
    private static final int FAULT_NUMBER = 2;
    private static final int FAULT_NAME = 3;
    private static final int FAULT_MANY = 4;
    private static final int FAULT_EMPTY = 5;

    // A blank ends each word, so that a whole word can be told from a part of one.
    private static final String LANGUAGE =
            "frames layer on loop stop cel at size ink slide from to right left down up hide blank swing x ";

    private final Tape tape = new Tape();
    private final Parser parser = new Parser(tape);
    private final Sheet sheet = new Sheet();
    private final History history = new History();
    private final Sheet[] kept = new Sheet[MOST_KEPT];
    private final boolean[] isKept = new boolean[MOST_KEPT];
    private final Camera camera = new Camera();
    private final Marker marker = new Marker();
    // Two scenes that change places: a text with a fault must leave the one in use as it is.
    private Scene current = new Scene();
    private Scene draft = new Scene();
    private final int[] spare = new int[MOST_FRAMES];
    // What is dear to find is kept until the sheet or the stack changes.
    private final int[] fewestMarks = new int[MOST_LAYERS];
    private final int[] pictures = new int[MOST_FRAMES];
    private int takes;
    private boolean picturesStand;

    public CelSheet() {
        for (int k = 0; k < MOST_KEPT; k++) {
            kept[k] = new Sheet();
        }
    }

    // ---- texts

    public int feed(int a, int b, int c, int d, int e) {
        if (tape.length > MOST_BYTES - FED_BYTES) {
            return NONE;
        }
        tape.append(a);
        tape.append(b);
        tape.append(c);
        tape.append(d);
        tape.append(e);
        return tape.length;
    }

    public boolean end(int n) {
        if (n < 0 || n > tape.length) {
            return false;
        }
        tape.length = n;
        return true;
    }

    public int scene() {
        boolean sound = parser.parse(draft);
        tape.length = 0;
        if (!sound) {
            return NONE;
        }
        Scene former = current;
        current = draft;
        draft = former;
        sheet.startAs(current);
        history.clear();
        for (int k = 0; k < MOST_KEPT; k++) {
            isKept[k] = false;
        }
        forgetAll();
        return current.statements;
    }

    public int fault(int what) {
        switch (what) {
            case 0:
                return parser.faultKind;
            case 1:
                return parser.faultPlace;
            default:
                return NONE;
        }
    }

    public int named() {
        int layer = NONE;
        tape.start();
        if (tape.kind == Tape.WORD) {
            int begin = tape.begin;
            int letters = tape.stop - tape.begin;
            tape.advance();
            if (tape.kind == Tape.END) {
                layer = current.layerWithName(tape.signs, begin, letters);
            }
        }
        tape.length = 0;
        return layer;
    }

    // ---- what is told

    public int look(int what) {
        switch (what) {
            case 0:
                return current.frames;
            case 1:
                return current.layers;
            case 2:
                return current.boxes;
            case 3:
                return current.slides;
            case 4:
                return current.hides;
            case 5:
                return history.count;
            case 6:
                return tape.length;
            default:
                return NONE;
        }
    }

    public int layer(int layer, int what) {
        if (!current.hasLayer(layer)) {
            return NONE;
        }
        int[] row = sheet.rows[layer];
        switch (what) {
            case 0:
                return current.on[layer];
            case 1:
                return sheet.placeOf(layer);
            case 2:
                return Rows.exposures(row, current.frames);
            case 3:
                return Rows.unlike(row, current.frames);
            case 4:
                return Rows.filled(row, current.frames);
            case 5:
                return Rows.jumps(row, current.frames);
            case 6:
                return Rows.greatest(row, current.frames);
            default:
                return NONE;
        }
    }

    public int spelt(int layer, int k) {
        if (!current.hasLayer(layer)) {
            return NONE;
        }
        if (k == NONE) {
            return current.letters[layer];
        }
        return k >= 0 && k < current.letters[layer] ? current.names[layer][k] : NONE;
    }

    public int box(int box, int what) {
        if (box < 0 || box >= current.boxes || what < 0 || what >= BOX_FACTS) {
            return NONE;
        }
        return current.boxFacts[box][what];
    }

    // ---- the sheet

    public int at(int layer, int frame) {
        return hasPlace(layer, frame) ? sheet.rows[layer][frame] : NONE;
    }

    public int told(int layer, int frame) {
        return hasPlace(layer, frame) ? current.rows[layer][frame] : NONE;
    }

    public int hold(int layer, int frame, int what) {
        if (!hasPlace(layer, frame)) {
            return NONE;
        }
        int[] row = sheet.rows[layer];
        int first = Rows.firstOfExposure(row, frame);
        switch (what) {
            case 0:
                return first;
            case 1:
                return Rows.exposureStop(row, frame, current.frames) - first;
            case 2:
                return Rows.exposures(row, frame + 1) - 1;
            default:
                return NONE;
        }
    }

    public int find(int layer, int drawing, int k) {
        if (!current.hasLayer(layer) || !isDrawingOrBlank(drawing) || k < 0) {
            return NONE;
        }
        int ahead = 0;
        for (int frame = 0; frame < current.frames; frame++) {
            if (sheet.rows[layer][frame] == drawing) {
                if (ahead == k) {
                    return frame;
                }
                ahead++;
            }
        }
        return NONE;
    }

    public int cycle(int layer, int what) {
        if (!current.hasLayer(layer)) {
            return NONE;
        }
        int[] row = sheet.rows[layer];
        int period = Rows.cyclePeriod(row, current.frames);
        if (period == NONE || period == 0) {
            return NONE;
        }
        int begin = Rows.cycleBegin(row, current.frames, period);
        switch (what) {
            case 0:
                return begin;
            case 1:
                return period;
            case 2:
                return (current.frames - begin) / period;
            case 3:
                return Rows.closes(row, begin, period) ? 1 : 0;
            default:
                return NONE;
        }
    }

    public int marks(int layer) {
        if (!current.hasLayer(layer)) {
            return NONE;
        }
        if (fewestMarks[layer] == NONE) {
            fewestMarks[layer] = marker.fewest(sheet.rows[layer], current.frames);
        }
        return fewestMarks[layer];
    }

    public int shift(int layer, int frame, int what) {
        if (!hasPlace(layer, frame)) {
            return NOTHING;
        }
        switch (what) {
            case 0:
                return current.right[layer][frame];
            case 1:
                return current.down[layer][frame];
            default:
                return NOTHING;
        }
    }

    public int hidden(int layer, int frame) {
        return hasPlace(layer, frame) ? current.covers[layer][frame] : NONE;
    }

    // ---- frames as they are composed

    public int cell(int frame, int x, int y) {
        if (!current.hasFrame(frame) || !isOnPaper(x, y)) {
            return NONE;
        }
        camera.aim(current, sheet, NONE);
        camera.compose(frame, 0, false);
        return camera.valueAt(x, y);
    }

    public int top(int frame, int x, int y) {
        if (!current.hasFrame(frame) || !isOnPaper(x, y)) {
            return NONE;
        }
        camera.aim(current, sheet, NONE);
        camera.compose(frame, 0, true);
        return camera.valueAt(x, y) - 1;
    }

    public int ink(int frame, int ink) {
        if (!current.hasFrame(frame) || ink < 0 || ink > MOST_INK) {
            return NONE;
        }
        camera.aim(current, sheet, NONE);
        camera.compose(frame, 0, false);
        return camera.placesWith(ink);
    }

    public int seen(int layer, int frame) {
        if (!hasPlace(layer, frame)) {
            return NONE;
        }
        camera.aim(current, sheet, NONE);
        camera.compose(frame, 0, true);
        return camera.placesWith(layer + 1);
    }

    public int same(int frame, int other) {
        if (!current.hasFrame(frame) || !current.hasFrame(other)) {
            return NONE;
        }
        findPictures();
        return pictures[frame] == pictures[other] ? 1 : 0;
    }

    public int like(int frame, int what) {
        if (!current.hasFrame(frame)) {
            return NONE;
        }
        findPictures();
        switch (what) {
            case 0:
                return firstWithPicture(pictures[frame]);
            case 1:
                return framesWithPicture(pictures[frame]);
            default:
                return NONE;
        }
    }

    public int take(int k) {
        findPictures();
        // Pictures are numbered as they first come, so the k-th take is the first with number k.
        return k == NONE ? takes : firstWithPicture(k);
    }

    public int still(int what) {
        if (current.frames == 0 || what < 0 || what > 1) {
            return NONE;
        }
        findPictures();
        int longest = 0;
        int longestFirst = 0;
        int first = 0;
        for (int frame = 0; frame < current.frames; frame++) {
            if (pictures[frame] != pictures[first]) {
                first = frame;
            }
            if (frame + 1 - first > longest) {
                longest = frame + 1 - first;
                longestFirst = first;
            }
        }
        return what == 0 ? longest : longestFirst;
    }

    public int changes(int frame) {
        if (!current.hasFrame(frame)) {
            return NONE;
        }
        int count = 0;
        for (int layer = 0; layer < current.layers; layer++) {
            int ahead = frame == 0 ? 0 : sheet.rows[layer][frame - 1];
            if (sheet.rows[layer][frame] != ahead) {
                count++;
            }
        }
        return count;
    }

    public int saved(int what) {
        if (current.frames == 0 || what < 0 || what > 3) {
            return NONE;
        }
        if (what == 0) {
            findPictures();
            return current.frames - takes;
        }
        int sum = 0;
        for (int layer = 0; layer < current.layers; layer++) {
            sum += savedOfLayer(layer, what);
        }
        return sum;
    }

    // ---- what would be

    public int turned(int layer, int k) {
        if (!current.hasLayer(layer) || !current.hasFrame(k)) {
            return NONE;
        }
        camera.aim(current, sheet, layer);
        return camera.countTakes(sheet.rows[layer], k);
    }

    public int best(int layer, int what) {
        if (!current.hasLayer(layer) || what < 0 || what > 1) {
            return NONE;
        }
        camera.aim(current, sheet, layer);
        int bestTurn = 0;
        int fewest = MOST_FRAMES + 1;
        for (int k = 0; k < current.frames; k++) {
            int count = camera.countTakes(sheet.rows[layer], k);
            if (count < fewest) {
                fewest = count;
                bestTurn = k;
            }
        }
        return what == 0 ? bestTurn : fewest;
    }

    public int without(int layer) {
        if (!current.hasLayer(layer)) {
            return NONE;
        }
        Arrays.fill(spare, 0);
        camera.aim(current, sheet, layer);
        return camera.countTakes(spare, 0);
    }

    public int doubled(int layer, int what) {
        if (!current.hasLayer(layer)) {
            return NONE;
        }
        putOnTwos(layer);
        switch (what) {
            case 0:
                return Rows.differences(sheet.rows[layer], spare, current.frames);
            case 1:
                return Rows.exposures(spare, current.frames);
            case 2:
                camera.aim(current, sheet, layer);
                return camera.countTakes(spare, 0);
            default:
                return NONE;
        }
    }

    // ---- acts

    public int expose(int layer, int from, int to, int drawing) {
        if (!hasPlace(layer, from) || !current.hasFrame(to) || to < from || !isDrawingOrBlank(drawing)) {
            return REFUSED;
        }
        copyToSpare(layer);
        for (int frame = from; frame <= to; frame++) {
            spare[frame] = drawing;
        }
        return Rows.differences(sheet.rows[layer], spare, current.frames) == 0 ? IDLE : putSpare(layer);
    }

    public int push(int layer, int frame, int n) {
        if (!hasPlace(layer, frame) || n < 1 || n > MOST_FRAMES) {
            return REFUSED;
        }
        int[] row = sheet.rows[layer];
        copyToSpare(layer);
        for (int later = frame; later < current.frames; later++) {
            spare[later] = later - n > frame ? row[later - n] : row[frame];
        }
        int lost = 0;
        for (int gone = Math.max(frame, current.frames - n); gone < current.frames; gone++) {
            if (row[gone] != 0) {
                lost++;
            }
        }
        putSpare(layer);
        return lost;
    }

    public int pull(int layer, int frame, int n) {
        if (!hasPlace(layer, frame) || n < 1 || n > current.frames - frame) {
            return REFUSED;
        }
        int[] row = sheet.rows[layer];
        copyToSpare(layer);
        int tail = current.frames - n;
        for (int nearer = frame; nearer < tail; nearer++) {
            spare[nearer] = row[nearer + n];
        }
        int last = tail > 0 ? spare[tail - 1] : 0;
        for (int left = tail; left < current.frames; left++) {
            spare[left] = last;
        }
        return putSpare(layer);
    }

    public int turn(int layer, int k) {
        if (!hasPlace(layer, k) || k == 0) {
            return REFUSED;
        }
        int[] row = sheet.rows[layer];
        for (int frame = 0; frame < current.frames; frame++) {
            int from = frame + k;
            spare[frame] = row[from < current.frames ? from : from - current.frames];
        }
        return putSpare(layer);
    }

    public int raise(int layer) {
        if (!current.hasLayer(layer)) {
            return REFUSED;
        }
        int place = sheet.placeOf(layer);
        if (place < 0 || place + 1 >= current.layers) {
            return IDLE;
        }
        history.remember(sheet);
        sheet.stack[place] = sheet.stack[place + 1];
        sheet.stack[place + 1] = layer;
        picturesStand = false;
        return place + 1;
    }

    public int twos(int layer) {
        if (!current.hasLayer(layer)) {
            return REFUSED;
        }
        putOnTwos(layer);
        return Rows.differences(sheet.rows[layer], spare, current.frames) == 0 ? IDLE : putSpare(layer);
    }

    public int undo() {
        if (history.count == 0) {
            return IDLE;
        }
        history.takeBack(sheet);
        forgetAll();
        return history.count;
    }

    // ---- kept

    public int keep(int k) {
        if (k < 0 || k >= MOST_KEPT) {
            return REFUSED;
        }
        if (current.frames == 0) {
            return IDLE;
        }
        kept[k].copyFrom(sheet);
        isKept[k] = true;
        return current.frames;
    }

    public int back(int k) {
        if (k < 0 || k >= MOST_KEPT) {
            return REFUSED;
        }
        if (!isKept[k]) {
            return IDLE;
        }
        sheet.copyFrom(kept[k]);
        history.clear();
        forgetAll();
        return current.frames;
    }

    public int apart(int k) {
        if (k < 0 || k >= MOST_KEPT) {
            return REFUSED;
        }
        if (!isKept[k]) {
            return IDLE;
        }
        int sum = 0;
        for (int layer = 0; layer < current.layers; layer++) {
            sum += Rows.differences(sheet.rows[layer], kept[k].rows[layer], current.frames);
        }
        return sum;
    }

    // ---- what several of them need

    private boolean hasPlace(int layer, int frame) {
        return current.hasLayer(layer) && current.hasFrame(frame);
    }

    private static boolean isOnPaper(int x, int y) {
        return x >= 0 && x < WIDE && y >= 0 && y < HIGH;
    }

    private static boolean isDrawingOrBlank(int drawing) {
        return drawing >= 0 && drawing <= MOST_DRAWING;
    }

    private void copyToSpare(int layer) {
        System.arraycopy(sheet.rows[layer], 0, spare, 0, MOST_FRAMES);
    }

    private void putOnTwos(int layer) {
        copyToSpare(layer);
        for (int frame = 1; frame < current.frames; frame += 2) {
            spare[frame] = spare[frame - 1];
        }
    }

    /** Carries out an act: the layer has the spare row. Answers in how many frames it changed. */
    private int putSpare(int layer) {
        int count = Rows.differences(sheet.rows[layer], spare, current.frames);
        history.remember(sheet);
        System.arraycopy(spare, 0, sheet.rows[layer], 0, current.frames);
        fewestMarks[layer] = NONE;
        picturesStand = false;
        return count;
    }

    private void forgetAll() {
        Arrays.fill(fewestMarks, NONE);
        picturesStand = false;
    }

    private void findPictures() {
        if (picturesStand) {
            return;
        }
        takes = 0;
        if (current.layers > 0) {
            camera.aim(current, sheet, 0);
            takes = camera.countTakes(sheet.rows[0], 0);
            for (int frame = 0; frame < current.frames; frame++) {
                pictures[frame] = camera.pictureOf(frame, sheet.rows[0][frame]);
            }
        }
        picturesStand = true;
    }

    private int firstWithPicture(int picture) {
        for (int frame = 0; frame < current.frames; frame++) {
            if (pictures[frame] == picture) {
                return frame;
            }
        }
        return NONE;
    }

    private int framesWithPicture(int picture) {
        int count = 0;
        for (int frame = 0; frame < current.frames; frame++) {
            if (pictures[frame] == picture) {
                count++;
            }
        }
        return count;
    }

    private int savedOfLayer(int layer, int what) {
        int[] row = sheet.rows[layer];
        switch (what) {
            case 1:
                return Rows.filled(row, current.frames) - Rows.filledExposures(row, current.frames);
            case 2:
                return Rows.filledExposures(row, current.frames) - Rows.unlike(row, current.frames);
            default:
                return Rows.exposures(row, current.frames) - marks(layer);
        }
    }

    /** The tape, and the word, number or sign on it that is read next. */
    private static final class Tape {
        private static final int END = 0;
        private static final int WORD = 1;
        private static final int NUMBER = 2;
        private static final int SIGN = 3;

        private final byte[] signs = new byte[MOST_BYTES];
        private int length;
        private int kind;
        private int begin;
        private int stop;

        private void append(int number) {
            for (int bits = 24; bits >= 0 && length < MOST_BYTES; bits -= 8) {
                signs[length] = (byte) (number >>> bits);
                length++;
            }
        }

        private void start() {
            stop = 0;
            advance();
        }

        private void advance() {
            begin = stop;
            while (begin < length && (signs[begin] == ' ' || signs[begin] == '\n')) {
                begin++;
            }
            stop = begin;
            kind = WORD;
            while (stop < length && signs[stop] >= 'a' && signs[stop] <= 'z') {
                stop++;
            }
            if (stop == begin) {
                kind = NUMBER;
                while (stop < length && signs[stop] >= '0' && signs[stop] <= '9') {
                    stop++;
                }
            }
            if (stop == begin && begin < length) {
                kind = SIGN;
                stop++;
            } else if (stop == begin) {
                kind = END;
            }
        }

        private boolean isSign(char sign) {
            return kind == SIGN && signs[begin] == sign;
        }

        private boolean isWord(String word) {
            if (kind != WORD || stop - begin != word.length()) {
                return false;
            }
            for (int i = 0; i < word.length() && begin + i < length; i++) {
                if (signs[begin + i] != word.charAt(i)) {
                    return false;
                }
            }
            return true;
        }

        private boolean takeSign(char sign) {
            if (!isSign(sign)) {
                return false;
            }
            advance();
            return true;
        }

        private boolean takeWord(String word) {
            if (!isWord(word)) {
                return false;
            }
            advance();
            return true;
        }

        private boolean isName() {
            return kind == WORD && stop - begin <= MOST_LETTERS && !isOfTheLanguage();
        }

        private boolean isOfTheLanguage() {
            int agreed = 0;
            for (int i = 0; i < LANGUAGE.length(); i++) {
                char sign = LANGUAGE.charAt(i);
                if (sign == ' ') {
                    if (agreed == stop - begin) {
                        return true;
                    }
                    agreed = 0;
                } else if (agreed >= 0 && begin + agreed < stop && signs[begin + agreed] == sign) {
                    agreed++;
                } else {
                    agreed = NONE;
                }
            }
            return false;
        }

        private int number() {
            int value = 0;
            for (int i = begin; i < stop && i < begin + MOST_DIGITS; i++) {
                value = value * 10 + (signs[i] - '0');
            }
            return value;
        }
    }

    /** The holds of a line while it is read, as far as they come to lie on frames. */
    private static final class Line {
        private final int[] drawings = new int[MOST_FRAMES];
        private final int[] lengths = new int[MOST_FRAMES];
        private final int[] firsts = new int[MOST_OPEN];
        private final boolean[] swings = new boolean[MOST_OPEN];
        private int frames;
        private int on;
        private int count;
        private int total;
        private int parts;
        private int open;
        private boolean hasPart;

        private void start(int frameCount, int holdLength) {
            frames = frameCount;
            on = holdLength;
            count = 0;
            total = 0;
            parts = 0;
            open = 0;
            hasPart = false;
        }

        // Holds only ever come behind those that are there, also by swings and rounds: what is
        // there when the frames are full can't be changed by what follows, so the rest is left out.
        private void add(int drawing, int length) {
            if (total < frames && count < MOST_FRAMES) {
                drawings[count] = drawing;
                lengths[count] = length;
                count++;
                total += length;
            }
        }

        private void addRun(int from, int to, int length) {
            int step = from <= to ? 1 : -1;
            for (int i = 0; i <= Math.abs(to - from); i++) {
                add(from + i * step, length);
            }
            hasPart = true;
        }

        private void openGroup(boolean swing) {
            if (open < MOST_OPEN) {
                firsts[open] = count;
                swings[open] = swing;
                open++;
                hasPart = false;
            }
        }

        private void closeGroup(int times) {
            if (open < 1) {
                return;
            }
            open--;
            int first = firsts[open];
            if (swings[open]) {
                for (int i = count - 2; i > first; i--) {
                    add(drawings[i], lengths[i]);
                }
            }
            int stop = count;
            for (int time = 1; time < times; time++) {
                for (int i = first; i < stop; i++) {
                    add(drawings[i], lengths[i]);
                }
            }
            hasPart = true;
        }

        /** Lays the holds on the row; answers how many frames they take. */
        private int layOn(int[] row) {
            int frame = 0;
            for (int h = 0; h < count; h++) {
                for (int i = 0; i < lengths[h] && frame < frames; i++) {
                    row[frame] = drawings[h];
                    frame++;
                }
            }
            return frame;
        }
    }

    /** Reads the tape as a scene, up to its first fault. */
    private static final class Parser {
        private static final int NO_STATEMENT = 0;
        private static final int LAYER = 1;
        private static final int CEL = 2;
        private static final int SLIDE = 3;
        private static final int HIDE = 4;

        private final Tape tape;
        private final Line line = new Line();
        private final int[] numbers = new int[BOX_FACTS];
        private Scene scene;
        private int owner;
        private int faultKind;
        private int faultPlace = NONE;

        private Parser(Tape tape) {
            this.tape = tape;
        }

        private boolean parse(Scene into) {
            scene = into;
            scene.clear();
            faultKind = 0;
            faultPlace = NONE;
            tape.start();
            boolean sound = readFrames();
            // One round more than statements may come: the first too many ends it with its fault.
            for (int n = 1; n <= MOST_STATEMENTS && sound && tape.kind != Tape.END; n++) {
                switch (startStatement()) {
                    case LAYER:
                        sound = readLayer() && endStatement();
                        break;
                    case CEL:
                        sound = readCel() && endStatement();
                        break;
                    case SLIDE:
                        sound = readSlide() && endStatement();
                        break;
                    case HIDE:
                        sound = readHide() && endStatement();
                        break;
                    default:
                        sound = false;
                }
            }
            if (sound && scene.layers == 0) {
                sound = fail(FAULT_EMPTY, tape.length);
            }
            return sound;
        }

        /** Takes the word that a statement begins with; answers which one it is. */
        private int startStatement() {
            int statement = nextStatement();
            if (statement == NO_STATEMENT) {
                fail(FAULT_FORM, tape.begin);
                return NO_STATEMENT;
            }
            if (scene.statements == MOST_STATEMENTS || isFull(statement)) {
                fail(FAULT_MANY, tape.begin);
                return NO_STATEMENT;
            }
            tape.advance();
            return statement;
        }

        private int nextStatement() {
            if (tape.isWord("layer")) {
                return LAYER;
            }
            if (tape.isWord("cel")) {
                return CEL;
            }
            if (tape.isWord("slide")) {
                return SLIDE;
            }
            return tape.isWord("hide") ? HIDE : NO_STATEMENT;
        }

        private boolean isFull(int statement) {
            switch (statement) {
                case LAYER:
                    return scene.layers == MOST_LAYERS;
                case CEL:
                    return scene.boxes == MOST_BOXES;
                case SLIDE:
                    return scene.slides == MOST_SLIDES;
                default:
                    return scene.hides == MOST_HIDES;
            }
        }

        private boolean endStatement() {
            scene.statements++;
            return needSign(';');
        }

        private boolean readFrames() {
            if (!needWord("frames") || !needNumber(0, 1, MOST_FRAMES)) {
                return false;
            }
            scene.frames = numbers[0];
            return endStatement();
        }

        private boolean readLayer() {
            int begin = tape.begin;
            int letters = tape.stop - tape.begin;
            if (!tape.isName()) {
                return fail(FAULT_FORM, begin);
            }
            if (scene.layerWithName(tape.signs, begin, letters) != NONE) {
                return fail(FAULT_NAME, begin);
            }
            tape.advance();
            if (!needWord("on") || !needNumber(0, 1, 24) || !needSign('=')) {
                return false;
            }
            line.start(scene.frames, numbers[0]);
            if (!readLine()) {
                return false;
            }
            scene.addLayer(tape.signs, begin, letters, line, readEnding());
            return true;
        }

        private int readEnding() {
            if (tape.takeWord("loop")) {
                return Scene.LOOP;
            }
            return tape.takeWord("stop") ? Scene.STOP : Scene.GO_ON;
        }

        private boolean readLine() {
            // Each round takes a sign at least, so there are no more rounds than signs.
            for (int round = 0; round <= MOST_BYTES; round++) {
                boolean sound;
                if (tape.kind == Tape.NUMBER || tape.isWord("blank")) {
                    sound = readHolds();
                } else if (tape.isSign('(') || tape.isWord("swing")) {
                    sound = readOpening();
                } else if (tape.isSign(')') && line.open > 0 && line.hasPart) {
                    sound = readClosing();
                } else if (line.open == 0 && line.hasPart) {
                    return true;
                } else {
                    sound = fail(FAULT_FORM, tape.begin);
                }
                if (!sound) {
                    return false;
                }
            }
            return fail(FAULT_FORM, tape.begin);
        }

        private boolean readHolds() {
            int begin = tape.begin;
            boolean drawn = !tape.takeWord("blank");
            numbers[0] = 0;
            // Of one place the least fault: the number's own ones go ahead of a part too many.
            if (drawn && !needNumber(0, 1, MOST_DRAWING)) {
                return false;
            }
            if (line.parts == MOST_PARTS) {
                return fail(FAULT_MANY, begin);
            }
            line.parts++;
            numbers[1] = numbers[0];
            if (drawn && tape.takeSign('-') && !needNumber(1, 1, MOST_DRAWING)) {
                return false;
            }
            numbers[2] = line.on;
            if (tape.takeWord("x") && !needNumber(2, 1, MOST_FRAMES)) {
                return false;
            }
            line.addRun(numbers[0], numbers[1], numbers[2]);
            return true;
        }

        private boolean readOpening() {
            if (line.parts == MOST_PARTS) {
                return fail(FAULT_MANY, tape.begin);
            }
            line.parts++;
            boolean swing = tape.takeWord("swing");
            int begin = tape.begin;
            if (!needSign('(')) {
                return false;
            }
            if (line.open == MOST_OPEN) {
                return fail(FAULT_MANY, begin);
            }
            line.openGroup(swing);
            return true;
        }

        private boolean readClosing() {
            tape.advance();
            numbers[2] = 1;
            if (tape.takeWord("x") && !needNumber(2, 1, MOST_FRAMES)) {
                return false;
            }
            line.closeGroup(numbers[2]);
            return true;
        }

        private boolean readCel() {
            if (!needOwner()) {
                return false;
            }
            numbers[BOX_LAYER] = owner;
            boolean sound = needNumber(BOX_DRAWING, 1, MOST_DRAWING)
                    && needWord("at") && needNumber(BOX_X, 0, WIDE - 1) && needNumber(BOX_Y, 0, HIGH - 1)
                    && needWord("size") && needNumber(BOX_WIDE, 1, WIDE) && needNumber(BOX_HIGH, 1, HIGH)
                    && needWord("ink") && needNumber(BOX_INK, 1, MOST_INK);
            if (sound) {
                scene.addBox(numbers);
            }
            return sound;
        }

        private boolean readSlide() {
            if (!readSpan()) {
                return false;
            }
            int rightward = readWay("right", "left");
            if (rightward == 0 || !needNumber(2, 0, 9)) {
                return false;
            }
            int downward = readWay("down", "up");
            if (downward == 0 || !needNumber(3, 0, 9)) {
                return false;
            }
            scene.addSlide(owner, numbers[0], numbers[1], rightward * numbers[2], downward * numbers[3]);
            return true;
        }

        private boolean readHide() {
            if (!readSpan()) {
                return false;
            }
            scene.addHide(owner, numbers[0], numbers[1]);
            return true;
        }

        private boolean readSpan() {
            return needOwner()
                    && needWord("from") && needNumber(0, 0, scene.frames - 1)
                    && needWord("to") && needNumber(1, numbers[0], scene.frames - 1);
        }

        private int readWay(String further, String less) {
            if (tape.takeWord(further)) {
                return 1;
            }
            return needWord(less) ? -1 : 0;
        }

        private boolean needOwner() {
            if (!tape.isName()) {
                return fail(FAULT_FORM, tape.begin);
            }
            owner = scene.layerWithName(tape.signs, tape.begin, tape.stop - tape.begin);
            if (owner == NONE) {
                return fail(FAULT_NAME, tape.begin);
            }
            tape.advance();
            return true;
        }

        private boolean needNumber(int slot, int low, int high) {
            if (tape.kind != Tape.NUMBER || tape.stop - tape.begin > MOST_DIGITS) {
                return fail(FAULT_FORM, tape.begin);
            }
            int value = tape.number();
            if (value < low || value > high) {
                return fail(FAULT_NUMBER, tape.begin);
            }
            numbers[slot] = value;
            tape.advance();
            return true;
        }

        private boolean needWord(String word) {
            return tape.takeWord(word) || fail(FAULT_FORM, tape.begin);
        }

        private boolean needSign(char sign) {
            return tape.takeSign(sign) || fail(FAULT_FORM, tape.begin);
        }

        private boolean fail(int kind, int place) {
            faultKind = kind;
            faultPlace = place;
            return false;
        }
    }

    /** What a text told: it stays as it is, whatever the acts do. */
    private static final class Scene {
        private static final int GO_ON = 0;
        private static final int LOOP = 1;
        private static final int STOP = 2;

        private int frames;
        private int statements;
        private int layers;
        private int boxes;
        private int slides;
        private int hides;
        private final int[] on = new int[MOST_LAYERS];
        private final int[] letters = new int[MOST_LAYERS];
        private final int[][] names = new int[MOST_LAYERS][MOST_LETTERS];
        private final int[][] rows = new int[MOST_LAYERS][MOST_FRAMES];
        private final int[][] right = new int[MOST_LAYERS][MOST_FRAMES];
        private final int[][] down = new int[MOST_LAYERS][MOST_FRAMES];
        private final int[][] covers = new int[MOST_LAYERS][MOST_FRAMES];
        private final int[][] boxFacts = new int[MOST_BOXES][BOX_FACTS];
        // The boxes of one drawing of one layer are a chain, in the order in which they were told.
        private final int[][] firstBox = new int[MOST_LAYERS][MOST_DRAWING + 1];
        private final int[] nextBox = new int[MOST_BOXES];

        private void clear() {
            frames = 0;
            statements = 0;
            layers = 0;
            boxes = 0;
            slides = 0;
            hides = 0;
        }

        private boolean hasLayer(int layer) {
            return layer >= 0 && layer < layers;
        }

        private boolean hasFrame(int frame) {
            return frame >= 0 && frame < frames;
        }

        private int layerWithName(byte[] signs, int begin, int count) {
            for (int layer = 0; layer < layers; layer++) {
                if (letters[layer] == count && isSpelt(layer, signs, begin)) {
                    return layer;
                }
            }
            return NONE;
        }

        private boolean isSpelt(int layer, byte[] signs, int begin) {
            for (int i = 0; i < letters[layer] && begin + i < signs.length; i++) {
                if (names[layer][i] != signs[begin + i]) {
                    return false;
                }
            }
            return true;
        }

        private void addLayer(byte[] signs, int begin, int count, Line line, int ending) {
            if (layers == MOST_LAYERS) {
                return;
            }
            int layer = layers;
            layers++;
            on[layer] = line.on;
            letters[layer] = Math.min(count, MOST_LETTERS);
            for (int i = 0; i < letters[layer] && begin + i < signs.length; i++) {
                names[layer][i] = signs[begin + i];
            }
            Arrays.fill(right[layer], 0);
            Arrays.fill(down[layer], 0);
            Arrays.fill(covers[layer], 0);
            Arrays.fill(firstBox[layer], NONE);
            fillBehind(rows[layer], line.layOn(rows[layer]), ending);
        }

        private void fillBehind(int[] row, int laid, int ending) {
            for (int frame = Math.max(laid, 1); frame < frames; frame++) {
                if (ending == STOP) {
                    row[frame] = 0;
                } else {
                    int back = ending == LOOP ? laid : 1;
                    row[frame] = row[Math.max(frame - back, 0)];
                }
            }
        }

        private void addBox(int[] facts) {
            if (boxes == MOST_BOXES) {
                return;
            }
            int box = boxes;
            boxes++;
            System.arraycopy(facts, 0, boxFacts[box], 0, BOX_FACTS);
            nextBox[box] = NONE;
            int[] chains = firstBox[facts[BOX_LAYER]];
            int drawing = facts[BOX_DRAWING];
            if (chains[drawing] == NONE) {
                chains[drawing] = box;
                return;
            }
            int last = chains[drawing];
            for (int i = 0; i < MOST_BOXES && nextBox[last] != NONE; i++) {
                last = nextBox[last];
            }
            nextBox[last] = box;
        }

        private void addSlide(int layer, int from, int to, int rightward, int downward) {
            slides++;
            for (int frame = from; frame < frames; frame++) {
                int steps = Math.min(frame, to) - from + 1;
                right[layer][frame] += steps * rightward;
                down[layer][frame] += steps * downward;
            }
        }

        private void addHide(int layer, int from, int to) {
            hides++;
            for (int frame = from; frame <= to && frame < frames; frame++) {
                covers[layer][frame] = 1;
            }
        }
    }

    /** What the acts change: the drawings of all layers, and the stack from its lowest on. */
    private static final class Sheet {
        private final int[][] rows = new int[MOST_LAYERS][MOST_FRAMES];
        private final int[] stack = new int[MOST_LAYERS];

        private void startAs(Scene scene) {
            for (int layer = 0; layer < MOST_LAYERS; layer++) {
                System.arraycopy(scene.rows[layer], 0, rows[layer], 0, MOST_FRAMES);
                stack[layer] = layer;
            }
        }

        private void copyFrom(Sheet other) {
            for (int layer = 0; layer < MOST_LAYERS; layer++) {
                System.arraycopy(other.rows[layer], 0, rows[layer], 0, MOST_FRAMES);
            }
            System.arraycopy(other.stack, 0, stack, 0, MOST_LAYERS);
        }

        private int placeOf(int layer) {
            for (int place = 0; place < MOST_LAYERS; place++) {
                if (stack[place] == layer) {
                    return place;
                }
            }
            return NONE;
        }
    }

    /** The sheets as they were ahead of the latest acts, in a ring that forgets the oldest. */
    private static final class History {
        private final Sheet[] former = new Sheet[MOST_ACTS];
        private int next;
        private int count;

        private History() {
            for (int i = 0; i < MOST_ACTS; i++) {
                former[i] = new Sheet();
            }
        }

        private void clear() {
            count = 0;
        }

        private void remember(Sheet sheet) {
            former[next].copyFrom(sheet);
            next = next + 1 < MOST_ACTS ? next + 1 : 0;
            count = Math.min(count + 1, MOST_ACTS);
        }

        private void takeBack(Sheet sheet) {
            if (count > 0) {
                next = next > 0 ? next - 1 : MOST_ACTS - 1;
                count--;
                sheet.copyFrom(former[next]);
            }
        }
    }

    /** What can be told of one row of drawings by its frames 0 to frames less 1. */
    private static final class Rows {
        private static int exposures(int[] row, int frames) {
            int count = 0;
            for (int frame = 0; frame < frames; frame++) {
                if (frame == 0 || row[frame] != row[frame - 1]) {
                    count++;
                }
            }
            return count;
        }

        private static int filledExposures(int[] row, int frames) {
            int count = 0;
            for (int frame = 0; frame < frames; frame++) {
                if (row[frame] != 0 && (frame == 0 || row[frame] != row[frame - 1])) {
                    count++;
                }
            }
            return count;
        }

        private static int filled(int[] row, int frames) {
            int count = 0;
            for (int frame = 0; frame < frames; frame++) {
                if (row[frame] != 0) {
                    count++;
                }
            }
            return count;
        }

        private static int unlike(int[] row, int frames) {
            // Drawings 0 to 99 as bits of two numbers.
            long low = 0;
            long high = 0;
            for (int frame = 0; frame < frames; frame++) {
                if (row[frame] >= 64) {
                    high |= 1L << (row[frame] - 64);
                } else if (row[frame] > 0) {
                    low |= 1L << row[frame];
                }
            }
            return Long.bitCount(low) + Long.bitCount(high);
        }

        private static int jumps(int[] row, int frames) {
            int count = 0;
            for (int frame = 1; frame < frames; frame++) {
                if (row[frame] != 0 && row[frame - 1] != 0 && Math.abs(row[frame] - row[frame - 1]) > 1) {
                    count++;
                }
            }
            return count;
        }

        private static int greatest(int[] row, int frames) {
            int most = 0;
            for (int frame = 0; frame < frames; frame++) {
                most = Math.max(most, row[frame]);
            }
            return most;
        }

        private static int differences(int[] row, int[] other, int frames) {
            int count = 0;
            for (int frame = 0; frame < frames; frame++) {
                if (row[frame] != other[frame]) {
                    count++;
                }
            }
            return count;
        }

        private static int firstOfExposure(int[] row, int frame) {
            int first = frame;
            while (first > 0 && row[first - 1] == row[frame]) {
                first--;
            }
            return first;
        }

        private static int exposureStop(int[] row, int frame, int frames) {
            int stop = frame;
            while (stop < frames && row[stop] == row[frame]) {
                stop++;
            }
            return stop;
        }

        /** The least begin from which on the row repeats what it had so many frames ahead. */
        private static int cycleBegin(int[] row, int frames, int period) {
            int begin = Math.max(frames - period, 0);
            while (begin > 0 && row[begin - 1] == row[begin - 1 + period]) {
                begin--;
            }
            return begin;
        }

        // All begins from the least on have the same drawings in one period, so the least one
        // tells for each period whether there is a cycle.
        private static int cyclePeriod(int[] row, int frames) {
            int best = NONE;
            int bestBegin = frames;
            for (int period = 2; 2 * period <= frames; period++) {
                int begin = cycleBegin(row, frames, period);
                if (begin < bestBegin && begin + 2 * period <= frames
                        && exposureStop(row, begin, begin + period) < begin + period) {
                    best = period;
                    bestBegin = begin;
                }
            }
            return best;
        }

        private static boolean closes(int[] row, int begin, int period) {
            int first = row[begin];
            int last = row[begin + period - 1];
            return first != 0 && last != 0 && Math.abs(first - last) <= 1;
        }
    }

    /** Finds the fewest marks that write a row: of each piece from its shorter pieces. */
    private static final class Marker {
        private static final int EDGE = MOST_FRAMES + 1;

        private final int[] drawings = new int[MOST_FRAMES];
        private final int[] lengths = new int[MOST_FRAMES];
        private int count;
        // From an exposure on: how many make a run.
        private final int[] runs = new int[MOST_FRAMES];
        // Around an exposure: how many on each side are alike, from it outwards.
        private final int[] mirrors = new int[MOST_FRAMES];
        // By a distance and an exposure: how many from it on are like those so much further on.
        private final int[][] echoes = new int[MOST_FRAMES / 2 + 1][MOST_FRAMES];
        // By first exposure and the one behind the last: the fewest marks.
        private final int[][] least = new int[EDGE][EDGE];

        private int fewest(int[] row, int frames) {
            split(row, frames);
            measureRuns();
            measureMirrors();
            measureEchoes();
            for (int first = 0; first < count; first++) {
                least[first][first + 1] = 1;
            }
            for (int size = 2; size <= count; size++) {
                for (int first = 0; first + size <= count; first++) {
                    least[first][first + size] = fewestOf(first, size);
                }
            }
            return count == 0 ? 0 : least[0][count];
        }

        private void split(int[] row, int frames) {
            count = 0;
            for (int frame = 0; frame < frames && frame < MOST_FRAMES; frame++) {
                if (count > 0 && row[frame] == drawings[count - 1]) {
                    lengths[count - 1]++;
                } else {
                    drawings[count] = row[frame];
                    lengths[count] = 1;
                    count++;
                }
            }
        }

        private int fewestOf(int first, int size) {
            int stop = first + size;
            int fewest = runs[first] >= size ? 2 : size;
            for (int middle = first + 1; middle < stop; middle++) {
                fewest = Math.min(fewest, least[first][middle] + least[middle][stop]);
            }
            for (int round = 1; 2 * round <= size; round++) {
                if (size % round == 0 && echoes[round][first] >= size - round) {
                    fewest = Math.min(fewest, least[first][first + round] + 1);
                }
            }
            // A swing of n exposures takes 2 n - 2: there and back around its last one.
            int last = first + size / 2;
            if (size >= 4 && size % 2 == 0 && mirrors[last] >= size / 2 - 1) {
                fewest = Math.min(fewest, least[first][last + 1] + 1);
            }
            return fewest;
        }

        private boolean areAlike(int one, int other) {
            return drawings[one] == drawings[other] && lengths[one] == lengths[other];
        }

        private void measureRuns() {
            for (int first = 0; first < count; first++) {
                runs[first] = Math.max(runLength(first, 1), runLength(first, -1));
            }
        }

        private int runLength(int first, int step) {
            if (drawings[first] == 0) {
                return 1;
            }
            int next = first + 1;
            while (next < count && drawings[next] != 0 && lengths[next] == lengths[first]
                    && drawings[next] == drawings[next - 1] + step) {
                next++;
            }
            return next - first;
        }

        private void measureMirrors() {
            for (int middle = 0; middle < count; middle++) {
                int reach = 0;
                while (middle - reach > 0 && middle + reach + 1 < count
                        && areAlike(middle - reach - 1, middle + reach + 1)) {
                    reach++;
                }
                mirrors[middle] = reach;
            }
        }

        private void measureEchoes() {
            for (int distance = 1; 2 * distance <= count; distance++) {
                int[] row = echoes[distance];
                int agreed = 0;
                for (int first = count - distance - 1; first >= 0; first--) {
                    agreed = areAlike(first, first + distance) ? agreed + 1 : 0;
                    row[first] = agreed;
                }
            }
        }
    }

    /**
     * Composes frames. A row of places is one number, four bits a place, so that a box is painted
     * a row at a time. One layer may be tried with other drawings than it has.
     */
    private static final class Camera {
        private static final int PLACE_BITS = 4;
        private static final long PLACE_MASK = 15;
        private static final long ONE_EACH = 0x111111111111L;
        // A drawing looks like its first box tells, or like none: so many looks a frame.
        private static final int LOOKS = MOST_BOXES + 1;

        private final long[] paper = new long[HIGH];
        private final Album album = new Album(MOST_FRAMES * LOOKS);
        private final int[] known = new int[MOST_FRAMES * LOOKS];
        private final int[] counted = new int[MOST_FRAMES * LOOKS];
        private int round;
        private Scene scene;
        private Sheet sheet;
        private int tried;

        /** Turns to a sheet as it is now; the tried layer (NONE: none) has what each call tells. */
        private void aim(Scene newScene, Sheet newSheet, int triedLayer) {
            scene = newScene;
            sheet = newSheet;
            tried = triedLayer;
            if (tried != NONE) {
                album.clear();
                Arrays.fill(known, NONE);
            }
        }

        private void compose(int frame, int drawing, boolean byLayer) {
            Arrays.fill(paper, 0L);
            for (int place = 0; place < scene.layers; place++) {
                int layer = sheet.stack[place];
                if (scene.covers[layer][frame] == 0) {
                    int shown = layer == tried ? drawing : sheet.rows[layer][frame];
                    paintDrawing(layer, frame, shown, byLayer);
                }
            }
        }

        private void paintDrawing(int layer, int frame, int drawing, boolean byLayer) {
            int box = scene.firstBox[layer][drawing];
            for (int i = 0; i < MOST_BOXES && box != NONE; i++) {
                int value = byLayer ? layer + 1 : scene.boxFacts[box][BOX_INK];
                paintBox(scene.boxFacts[box], scene.right[layer][frame], scene.down[layer][frame], value);
                box = scene.nextBox[box];
            }
        }

        private void paintBox(int[] facts, int right, int down, int value) {
            int left = Math.max(facts[BOX_X] + right, 0);
            int width = Math.min(facts[BOX_X] + right + facts[BOX_WIDE], WIDE) - left;
            if (width <= 0) {
                return;
            }
            long mask = ((1L << (width * PLACE_BITS)) - 1) << (left * PLACE_BITS);
            long paint = (ONE_EACH * value) & mask;
            int stop = Math.min(facts[BOX_Y] + down + facts[BOX_HIGH], HIGH);
            for (int y = Math.max(facts[BOX_Y] + down, 0); y < stop; y++) {
                paper[y] = (paper[y] & ~mask) | paint;
            }
        }

        private int valueAt(int x, int y) {
            return (int) ((paper[y] >>> (x * PLACE_BITS)) & PLACE_MASK);
        }

        private int placesWith(int value) {
            int count = 0;
            for (int y = 0; y < HIGH; y++) {
                for (int x = 0; x < WIDE; x++) {
                    if (valueAt(x, y) == value) {
                        count++;
                    }
                }
            }
            return count;
        }

        /** The number of the frame's picture with a drawing of the tried layer. */
        private int pictureOf(int frame, int drawing) {
            int look = frame * LOOKS + scene.firstBox[tried][drawing] + 1;
            if (known[look] == NONE) {
                compose(frame, drawing, false);
                known[look] = album.numberOf(paper);
            }
            return known[look];
        }

        /** Takes, if the tried layer has the row turned by k. */
        private int countTakes(int[] row, int k) {
            round++;
            int count = 0;
            for (int frame = 0; frame < scene.frames; frame++) {
                int from = frame + k < scene.frames ? frame + k : frame + k - scene.frames;
                int picture = pictureOf(frame, row[from]);
                if (picture >= 0 && picture < counted.length && counted[picture] != round) {
                    counted[picture] = round;
                    count++;
                }
            }
            return count;
        }
    }

    /** Unlike pictures, numbered from 0 on as they first come. */
    private static final class Album {
        private static final int CHAINS = 512;

        private final long[][] papers;
        private final int[] first = new int[CHAINS];
        private final int[] next;
        private int count;

        private Album(int most) {
            papers = new long[HIGH][most];
            next = new int[most];
        }

        private void clear() {
            count = 0;
            Arrays.fill(first, NONE);
        }

        private int numberOf(long[] paper) {
            int chain = chainOf(paper);
            int picture = first[chain];
            for (int i = 0; i < count && picture != NONE; i++) {
                if (isLike(picture, paper)) {
                    return picture;
                }
                picture = next[picture];
            }
            if (count >= next.length) {
                return NONE;
            }
            for (int y = 0; y < HIGH; y++) {
                papers[y][count] = paper[y];
            }
            next[count] = first[chain];
            first[chain] = count;
            count++;
            return count - 1;
        }

        private boolean isLike(int picture, long[] paper) {
            for (int y = 0; y < HIGH; y++) {
                if (papers[y][picture] != paper[y]) {
                    return false;
                }
            }
            return true;
        }

        private static int chainOf(long[] paper) {
            long mixed = 0;
            for (int y = 0; y < HIGH; y++) {
                mixed = (mixed ^ paper[y]) * 0x9E3779B97F4A7C15L;
                mixed ^= mixed >>> 29;
            }
            return (int) (mixed >>> 55);
        }
    }
}
