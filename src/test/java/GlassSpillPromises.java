/** For each promise of the document: ordinary calls, the edges that it names, and each error in its order. */
public final class GlassSpillPromises {
    private static final int NO_SUCH = -1, BAD_VALUE = -2, BAD_TEXT = -3, TOO_MANY = -4, NOT_POSSIBLE = -5, NONE = -6;
    private static final int BLACK = 0x000, WHITE = 0xfff, RED = 0xf00, GREEN = 0x0f0, BLUE = 0x00f;
    private static final int CLEAR_PIXELS = 7, SOFT_PIXELS = 8, HAIR_PIXELS = 9, BODY_PIXELS = 10, GLASS_PIXELS = 11;
    private static final int OPAQUE = 12, SPILL = 13, TAKEN = 14, HOLES = 15, LIKE_BACK = 16, LIKE_FRONT = 17;
    private static final int MARKED = 18, PAD = 19, UNDOABLE = 20;

    private static int promise = 0;
    private static int wrong = 0;

    private static void due(String call, long got, long want) {
        if (got != want) {
            wrong++;
            System.out.println("promise " + promise + ": " + call + " answered " + got + ", due is " + want);
        }
    }

    public static void main(String[] args) {
        newObject();
        set();
        screen();
        paint();
        fill();
        read();
        mark();
        keep();
        pixelDistanceAndOpaque();
        pixelKinds();
        pixelSpill();
        pixelComposed();
        pixelErrors();
        holes();
        count();
        row();
        bestScreen();
        leastNear();
        ifSet();
        bestShare();
        put();
        wipe();
        fault();
        undo();
        undoOfEachChange();
        save();
        restore();
        System.out.println(wrong == 0 ? "all answers are as due" : wrong + " answers are not as due");
        if (wrong != 0) {
            System.exit(1);
        }
    }

    // ---- helpers

    /** The characters as the number that put takes. */
    private static long packed(String text) {
        long number = 0;
        for (int i = 0; i < text.length(); i++) {
            number = number << 8 | text.charAt(i);
        }
        return number;
    }

    private static void write(GlassSpill x, String text) {
        x.wipe();
        for (int i = 0; i < text.length(); i += 8) {
            x.put(packed(text.substring(i, Math.min(text.length(), i + 8))));
        }
        due("length of the pad with " + text, x.count(PAD), text.length());
    }

    /** Paints a row of the front: one colour of three hexadecimal digits a pixel, from the first column on. */
    private static void frontRow(GlassSpill x, int row, String... colours) {
        for (int i = 0; i < colours.length; i++) {
            x.paint(true, 8 * row + i, Integer.parseInt(colours[i], 16));
        }
    }

    private static void dueRow(GlassSpill x, String what, boolean isFront, int row, int... colours) {
        for (int i = 0; i < colours.length; i++) {
            due(what + ", column " + i, x.pixel(8 * row + i, isFront ? 0 : 1), colours[i]);
        }
    }

    private static GlassSpill allGreen() {
        GlassSpill x = new GlassSpill();
        x.fill(true, 0, 47, GREEN);
        return x;
    }

    // ---- promises

    private static void newObject() {
        promise = 1;
        GlassSpill x = new GlassSpill();
        int[] counts = {6, 18, 16, 8, 4, 0, 240, 0, 48, 0, 0, 0, 576, 0, 0, 0, 48, 48, 0, 0, 0};
        for (int what = 0; what < counts.length; what++) {
            due("count(" + what + ")", x.count(what), counts[what]);
        }
        int[] numbers = {0, 0, 15, 12, 12, 1, 0, 0, 0, 0};
        for (int pixel = 0; pixel < 48; pixel++) {
            for (int what = 0; what < numbers.length; what++) {
                due("pixel(" + pixel + ", " + what + ")", x.pixel(pixel, what), numbers[what]);
            }
        }
        due("undo", x.undo(), NOT_POSSIBLE);
        due("restore(0)", x.restore(0), NOT_POSSIBLE);
        due("restore(1)", x.restore(1), NOT_POSSIBLE);
        due("fault", x.fault(), 0);
        due("wipe", x.wipe(), 0);
    }

    private static void set() {
        promise = 2;
        GlassSpill x = new GlassSpill();
        due("set NEAR to its least", x.set(0, 0), 6);
        due("set NEAR", x.set(0, 17), 0);
        due("set NEAR to FAR", x.set(0, 18), NOT_POSSIBLE);
        due("set NEAR above FAR", x.set(0, 45), NOT_POSSIBLE);
        due("set NEAR out of range", x.set(0, 46), BAD_VALUE);
        due("set NEAR below 0", x.set(0, -1), BAD_VALUE);
        due("set FAR to NEAR", x.set(1, 17), NOT_POSSIBLE);
        due("set FAR to 0", x.set(1, 0), NOT_POSSIBLE);
        due("set FAR to its greatest", x.set(1, 45), 18);
        due("set FAR out of range", x.set(1, 46), BAD_VALUE);
        due("set NEAR to 44", x.set(0, 44), 17);
        due("set NEAR to 45", x.set(0, 45), NOT_POSSIBLE);
        due("set BODY", x.set(2, 0), 16);
        due("set BODY again", x.set(2, 16), 0);
        due("set BODY out of range", x.set(2, 17), BAD_VALUE);
        due("set HAIR", x.set(3, 16), 8);
        due("set HAIR out of range", x.set(3, 17), BAD_VALUE);
        due("set HAIR below 0", x.set(3, -1), BAD_VALUE);
        due("set GLASS", x.set(4, 0), 4);
        due("set GLASS out of range", x.set(4, 17), BAD_VALUE);
        due("set CLOSE", x.set(5, 1), 0);
        due("set CLOSE out of range", x.set(5, 2), BAD_VALUE);
        due("set CLOSE below 0", x.set(5, -1), BAD_VALUE);
        due("set without a setting", x.set(6, 0), BAD_VALUE);
        due("set below the settings", x.set(-1, 0), BAD_VALUE);
        due("set of the greatest", x.set(Integer.MAX_VALUE, Integer.MAX_VALUE), BAD_VALUE);
        due("set of the least", x.set(Integer.MIN_VALUE, Integer.MIN_VALUE), BAD_VALUE);
        int[] settings = {44, 45, 16, 16, 0, 1};
        for (int i = 0; i < settings.length; i++) {
            due("setting " + i, x.count(i), settings[i]);
        }
        due("errors are no changes", x.count(UNDOABLE), 6);
    }

    private static void screen() {
        promise = 3;
        GlassSpill x = new GlassSpill();
        due("screen to black", x.screen(0), 240);
        due("distance of black", x.pixel(0, 2), 0);
        due("screen to white", x.screen(4095), 0);
        due("distance of black", x.pixel(0, 2), 45);
        due("screen too great", x.screen(4096), BAD_VALUE);
        due("screen below 0", x.screen(-1), BAD_VALUE);
        due("screen of the least", x.screen(Integer.MIN_VALUE), BAD_VALUE);
        due("screen stays", x.count(6), 4095);
        due("two changes", x.count(UNDOABLE), 2);
    }

    private static void paint() {
        promise = 4;
        GlassSpill x = new GlassSpill();
        due("paint the front", x.paint(true, 0, 0x123), 0);
        due("paint the back", x.paint(false, 0, 0x456), 0);
        due("front", x.pixel(0, 0), 0x123);
        due("back", x.pixel(0, 1), 0x456);
        due("paint the front again", x.paint(true, 0, 4095), 0x123);
        due("paint the back again", x.paint(false, 0, 0), 0x456);
        due("paint the last", x.paint(true, 47, 1), 0);
        due("the last", x.pixel(47, 0), 1);
        due("another one", x.pixel(46, 0), 0);
        due("paint no pixel", x.paint(true, 48, 0), NO_SUCH);
        due("paint below the pixels", x.paint(false, -1, 0), NO_SUCH);
        due("no pixel before a bad colour", x.paint(true, 48, 4096), NO_SUCH);
        due("colour too great", x.paint(true, 0, 4096), BAD_VALUE);
        due("colour below 0", x.paint(false, 0, -1), BAD_VALUE);
        due("five changes", x.count(UNDOABLE), 5);
    }

    private static void fill() {
        promise = 5;
        GlassSpill x = new GlassSpill();
        due("fill a rectangle", x.fill(true, 10, 29, 7), 12);
        for (int pixel = 0; pixel < 48; pixel++) {
            boolean inside = pixel % 8 >= 2 && pixel % 8 <= 5 && pixel / 8 >= 1 && pixel / 8 <= 3;
            due("front " + pixel, x.pixel(pixel, 0), inside ? 7 : 0);
            due("back " + pixel, x.pixel(pixel, 1), 0);
        }
        due("fill from the right to the left", x.fill(false, 13, 26, 4095), 12);
        for (int pixel = 0; pixel < 48; pixel++) {
            boolean inside = pixel % 8 >= 2 && pixel % 8 <= 5 && pixel / 8 >= 1 && pixel / 8 <= 3;
            due("back " + pixel, x.pixel(pixel, 1), inside ? 4095 : 0);
        }
        due("fill from below", x.fill(true, 29, 10, 0), 12);
        due("filled from below", x.pixel(10, 0), 0);
        due("fill one", x.fill(true, 47, 47, 1), 1);
        due("fill all", x.fill(true, 0, 47, 2), 48);
        due("fill all from the end", x.fill(true, 40, 7, 3), 48);
        due("fill no pixel", x.fill(true, 48, 0, 0), NO_SUCH);
        due("fill to no pixel", x.fill(true, 0, 48, 0), NO_SUCH);
        due("fill from below 0", x.fill(true, -1, 0, 0), NO_SUCH);
        due("fill to below 0", x.fill(true, 0, -1, 0), NO_SUCH);
        due("no pixel before a bad colour", x.fill(true, 0, 48, -1), NO_SUCH);
        due("fill with no colour", x.fill(true, 0, 0, 4096), BAD_VALUE);
        due("fill with a colour below 0", x.fill(false, 0, 0, -1), BAD_VALUE);
        due("six changes", x.count(UNDOABLE), 6);
        due("all stay", x.pixel(0, 0), 3);
    }

    private static void read() {
        promise = 6;
        GlassSpill x = new GlassSpill();
        x.fill(true, 0, 47, 1);
        write(x, "abc..09f");
        due("read", x.read(true, 2), 2);
        dueRow(x, "the row read", true, 2, 0xabc, 1, 1, 0x09f, 1, 1, 1, 1);
        dueRow(x, "the row above", true, 1, 1, 1, 1, 1, 1, 1, 1, 1);
        dueRow(x, "the row below", true, 3, 1, 1, 1, 1, 1, 1, 1, 1);
        dueRow(x, "the back", false, 2, 0, 0, 0, 0, 0, 0, 0, 0);
        due("the pad is empty", x.count(PAD), 0);
        due("read of an empty pad", x.read(true, 2), BAD_TEXT);
        write(x, "000111222333444555666777");
        due("read of the last row of the back", x.read(false, 5), 8);
        dueRow(x, "the back", false, 5, 0, 0x111, 0x222, 0x333, 0x444, 0x555, 0x666, 0x777);
        write(x, ".......fff");
        due("read of the first row", x.read(false, 0), 1);
        dueRow(x, "the back", false, 0, 0, 0, 0, 0, 0, 0, 0, 0xfff);
        write(x, ".");
        int before = x.count(UNDOABLE);
        due("read of a pixel that stays", x.read(true, 0), 0);
        due("which is a change", x.count(UNDOABLE), before + 1);
        write(x, "12");
        due("read of a short text", x.read(true, 0), BAD_TEXT);
        due("the pad stays", x.count(PAD), 2);
        due("no row before a bad text", x.read(true, 6), NO_SUCH);
        due("read below the rows", x.read(true, -1), NO_SUCH);
        due("an error is no change", x.count(UNDOABLE), before + 1);
        write(x, ".........");
        due("read of nine", x.read(true, 0), BAD_TEXT);
        write(x, "fff");
        due("no row with a good text", x.read(true, Integer.MAX_VALUE), NO_SUCH);
        due("the pad stays", x.wipe(), 3);
    }

    private static void mark() {
        promise = 7;
        GlassSpill x = new GlassSpill();
        due("mark", x.mark(0, true), 1);
        due("mark another", x.mark(47, true), 2);
        due("mark again", x.mark(0, true), NOT_POSSIBLE);
        due("mark no pixel", x.mark(48, true), NO_SUCH);
        due("mark below the pixels", x.mark(-1, true), NO_SUCH);
        due("no pixel that is not marked", x.mark(48, false), NO_SUCH);
        due("unmark one that is not", x.mark(1, false), NOT_POSSIBLE);
        due("two changes", x.count(UNDOABLE), 2);
        due("unmark", x.mark(0, false), 1);
        due("kind", x.pixel(0, 5), 1);
        due("kind of glass", x.pixel(47, 5), 4);
        due("unmark again", x.mark(0, false), NOT_POSSIBLE);
    }

    private static void keep() {
        promise = 8;
        GlassSpill x = allGreen();
        x.fill(false, 0, 47, 0x125);
        x.paint(true, 5, 0x888);
        x.paint(true, 6, 0x125);
        x.mark(5, true);
        x.mark(0, true);
        // the distance of 0x125 is 19, that of 0x888 23: both are body, and their spill is 0
        due("keep", x.keep(), 46);
        due("marks", x.count(MARKED), 0);
        due("a clear one", x.pixel(0, 0), 0x125);
        due("an opaque one", x.pixel(5, 0), 0x888);
        due("the back stays", x.pixel(5, 1), 0x125);
        due("the screen stays", x.count(6), GREEN);
        due("keep again", x.keep(), 0);
        due("also with no pixel changed it is a change", x.count(UNDOABLE), 6);
        due("undo", x.undo(), 5);
        due("undo", x.undo(), 4);
        due("the marks are back", x.count(MARKED), 2);
        due("the front is back", x.pixel(0, 0), GREEN);
    }

    private static void pixelDistanceAndOpaque() {
        promise = 9;
        GlassSpill x = new GlassSpill();
        int[][] due = {
            {0x0f0, 0, 0}, {0x090, 6, 0}, {0x080, 7, 1}, {0x070, 8, 2}, {0x060, 9, 4}, {0x1f1, 2, 0},
            {0x5f5, 10, 5}, {0x000, 15, 12}, {0x200, 17, 14}, {0x300, 18, 16}, {0xf0f, 45, 16}, {0x3c4, 10, 5},
        };
        for (int[] one : due) {
            x.paint(true, 20, one[0]);
            due("distance of " + one[0], x.pixel(20, 2), one[1]);
            due("raw opaque of " + one[0], x.pixel(20, 3), one[2]);
            due("opaque of " + one[0], x.pixel(20, 4), one[2]);
        }
        x.set(0, 0);
        x.set(1, 45);
        x.paint(true, 20, 0x0d0);
        due("a share below 1 is 0", x.pixel(20, 3), 0);
        due("and clear", x.pixel(20, 5), 0);
        x.paint(true, 20, 0x0c0);
        due("16 * 3 / 45", x.pixel(20, 3), 1);
        x.set(0, 44);
        x.paint(true, 20, 0xe0f);
        due("distance 44 at NEAR", x.pixel(20, 3), 0);
        x.paint(true, 20, 0xf0f);
        due("distance 45 at FAR", x.pixel(20, 3), 16);
        x.screen(0x777);
        x.paint(true, 20, 0x0f7);
        due("parts below and above", x.pixel(20, 2), 15);
    }

    private static void pixelKinds() {
        promise = 9;
        GlassSpill x = allGreen();
        // the first one's neighbours: a clear one and a body; 0x060 is opaque by 4
        frontRow(x, 0, "0f0", "060", "f00", "060", "f00");
        due("clear", x.pixel(0, 5), 0);
        due("hair, body at the right", x.pixel(1, 5), 2);
        due("body", x.pixel(2, 5), 3);
        due("hair, the clear one is below", x.pixel(3, 5), 2);
        x.paint(true, 11, 0xf00);
        due("soft between bodies", x.pixel(3, 5), 1);
        x.paint(true, 3, GREEN);
        due("clear between bodies", x.pixel(3, 5), 0);
        x.paint(true, 30, 0x060);
        due("soft among clear ones", x.pixel(30, 5), 1);
        x.paint(true, 21, 0xf00);
        due("a body at a corner is not beside", x.pixel(30, 5), 1);
        x.paint(true, 22, 0xf00);
        due("a body above is", x.pixel(30, 5), 2);
        x.mark(22, true);
        due("also a marked one", x.pixel(30, 5), 2);
        due("which is glass", x.pixel(22, 5), 4);
        x.mark(0, true);
        due("a clear one that is marked is glass", x.pixel(0, 5), 4);
        x.paint(true, 9, 0xf00);
        due("a marked clear one makes hair", x.pixel(1, 5), 2);
        x.mark(1, true);
        due("hair that is marked is glass", x.pixel(1, 5), 4);
        GlassSpill rows = allGreen();
        rows.paint(true, 15, 0xf00);
        rows.paint(true, 16, 0x060);
        due("the end of the row above is not beside", rows.pixel(16, 5), 1);
        rows.paint(true, 23, 0x060);
        rows.paint(true, 24, 0xf00);
        rows.paint(true, 15, GREEN);
        due("the start of the row below is not beside", rows.pixel(23, 5), 1);
        rows.paint(true, 31, 0xf00);
        due("the pixel below is", rows.pixel(23, 5), 2);
        besideTheCorners();
    }

    /** At a corner of the picture just two pixels are beside: each of them is the one that makes hair. */
    private static void besideTheCorners() {
        int[][] corners = {{0, 1}, {0, 8}, {7, 6}, {7, 15}, {40, 32}, {40, 41}, {47, 39}, {47, 46}};
        for (int[] corner : corners) {
            GlassSpill x = allGreen();
            x.paint(true, corner[0], 0x060);
            x.paint(true, corner[1], 0xf00);
            due("hair at " + corner[0] + " by " + corner[1], x.pixel(corner[0], 5), 2);
            x.paint(true, corner[1], 0x060);
            x.paint(true, corner[0], 0xf00);
            due("hair at " + corner[1] + " by " + corner[0], x.pixel(corner[1], 5), 2);
        }
    }

    private static void pixelSpill() {
        promise = 9;
        GlassSpill x = allGreen();
        x.paint(true, 20, 0x8c6);
        due("spill", x.pixel(20, 6), 4);
        // distance 8 + 3 + 6 = 17: soft
        due("kind", x.pixel(20, 5), 1);
        due("all of it is taken out", x.pixel(20, 7), 4);
        due("without spill", x.pixel(20, 8), 0x886);
        x.set(2, 5);
        due("4 * 5 / 16", x.pixel(20, 7), 1);
        due("without a part of it", x.pixel(20, 8), 0x8b6);
        x.paint(true, 21, 0xf00);
        due("hair", x.pixel(20, 5), 2);
        due("4 * 8 / 16", x.pixel(20, 7), 2);
        x.set(3, 15);
        due("4 * 15 / 16", x.pixel(20, 7), 3);
        x.mark(20, true);
        due("4 * 4 / 16", x.pixel(20, 7), 1);
        x.set(4, 3);
        due("4 * 3 / 16", x.pixel(20, 7), 0);
        due("spill of a clear one", x.pixel(0, 6), 15);
        due("stays", x.pixel(0, 7), 0);
        due("whole", x.pixel(0, 8), GREEN);
        x.set(4, 16);
        x.mark(0, true);
        due("but not that of a clear one that is glass", x.pixel(0, 7), 15);
        due("which is black then", x.pixel(0, 8), 0);
        x.set(2, 16);
        x.paint(true, 30, 0xce0);
        due("body", x.pixel(30, 5), 1);
        due("2 above the greater part", x.pixel(30, 6), 2);
        x.paint(true, 30, 0xcc0);
        due("no spill at the same part", x.pixel(30, 6), 0);
        x.paint(true, 30, 0xfc0);
        due("no spill below", x.pixel(30, 6), 0);
        due("nothing taken out", x.pixel(30, 8), 0xfc0);
        mainParts();
    }

    private static void mainParts() {
        GlassSpill x = new GlassSpill();
        x.paint(true, 0, 0x943);
        x.paint(true, 1, 0x394);
        x.paint(true, 2, 0x349);
        int[] screens = {0x000, 0xfff, 0xff0, 0xf0f, 0x0ff, 0x00f, 0x010, 0x556, 0x565, 0x655, 0x566, 0x656, 0x665};
        int[] mains = {0, 0, 0, 0, 1, 2, 1, 2, 1, 0, 1, 0, 0};
        for (int i = 0; i < screens.length; i++) {
            x.screen(screens[i]);
            for (int name = 0; name < 3; name++) {
                due("spill of part " + name + " with screen " + screens[i], x.pixel(name, 6), mains[i] == name ? 5 : 0);
            }
        }
        x.set(0, 0);
        x.set(1, 1);
        x.screen(0x00f);
        due("blue is taken out", x.pixel(2, 8), 0x344);
        x.screen(0xf00);
        due("red is taken out", x.pixel(0, 8), 0x443);
        x.screen(0x0f0);
        due("green is taken out", x.pixel(1, 8), 0x344);
    }

    private static void pixelComposed() {
        promise = 9;
        GlassSpill x = allGreen();
        x.fill(false, 0, 47, 0xf5a);
        due("clear is the back", x.pixel(47, 9), 0xf5a);
        x.paint(true, 20, 0x060);
        // opaque by 4, soft, so all spill is taken out: 15 * 12 / 16, 5 * 12 / 16, 10 * 12 / 16
        due("soft", x.pixel(20, 9), 0xb37);
        x.set(2, 0);
        // the green part: (6 * 4 + 5 * 12) / 16
        due("soft with its spill", x.pixel(20, 9), 0xb57);
        x.paint(true, 20, 0xf0f);
        due("body is the front", x.pixel(20, 9), 0xf0f);
        x.set(4, 16);
        x.mark(0, true);
        due("clear glass is the back", x.pixel(0, 9), 0xf5a);
        x.set(0, 0);
        x.set(1, 16);
        x.paint(true, 20, 0x7f8);
        // opaque by 15: (7 * 15 + 15) / 16, (15 * 15 + 5) / 16, (8 * 15 + 10) / 16
        due("opaque by 15", x.pixel(20, 9), 0x7e8);
    }

    private static void pixelErrors() {
        promise = 9;
        GlassSpill x = new GlassSpill();
        for (int pixel : new int[] {48, -1, Integer.MAX_VALUE, Integer.MIN_VALUE}) {
            due("pixel(" + pixel + ", 0)", x.pixel(pixel, 0), NO_SUCH);
            due("pixel(" + pixel + ", 10)", x.pixel(pixel, 10), NO_SUCH);
        }
        for (int what : new int[] {10, -1, Integer.MAX_VALUE, Integer.MIN_VALUE}) {
            due("pixel(0, " + what + ")", x.pixel(0, what), BAD_VALUE);
            due("pixel(47, " + what + ")", x.pixel(47, what), BAD_VALUE);
        }
        due("nothing changes", x.count(UNDOABLE), 0);
    }

    private static void holes() {
        promise = 9;
        GlassSpill x = new GlassSpill();
        x.fill(true, 0, 47, RED);
        x.set(5, 1);
        x.fill(true, 9, 14, GREEN);
        x.fill(true, 10, 11, 0x060);
        due("holes in the second row", x.count(HOLES), 6);
        due("a hole is opaque", x.pixel(9, 4), 16);
        due("not as raw", x.pixel(9, 3), 0);
        due("one that is not clear, too", x.pixel(10, 3), 4);
        due("is opaque", x.pixel(10, 4), 16);
        due("a hole is body", x.pixel(9, 5), 3);
        due("its spill is taken out", x.pixel(9, 7), 15);
        x.paint(true, 23, GREEN);
        due("an edge at a corner lets no one out", x.count(HOLES), 6);
        x.paint(true, 22, 0x060);
        due("a way out of the row", x.count(HOLES), 0);
        due("open then", x.pixel(9, 4), 0);
        x.paint(true, 22, 0x300);
        due("opaque by 16 is no way", x.count(HOLES), 6);
        x.paint(true, 22, 0x200);
        due("opaque by 14 is a way", x.count(HOLES), 0);
        x.set(0, 0);
        x.set(1, 16);
        x.paint(true, 22, 0x000);
        due("opaque by 15", x.pixel(22, 3), 15);
        due("is a way, too", x.count(HOLES), 0);
        x.paint(true, 22, 0x100);
        due("and by 16 there is none", x.count(HOLES), 6);
        x.paint(true, 22, 0x000);
        x.mark(22, true);
        due("a mark is no wall", x.count(HOLES), 0);
        x.set(5, 0);
        x.paint(true, 22, RED);
        due("not closed", x.count(HOLES), 0);
        due("not opaque", x.pixel(9, 4), 0);
        wayWithTurns();
    }

    /** One way through the whole picture, from the inside to the edge. */
    private static void wayWithTurns() {
        GlassSpill x = new GlassSpill();
        x.fill(true, 0, 47, RED);
        x.set(5, 1);
        x.fill(true, 9, 14, GREEN);
        x.fill(true, 14, 38, GREEN);
        x.fill(true, 33, 38, GREEN);
        x.paint(true, 25, GREEN);
        due("a way that is closed", x.count(HOLES), 6 + 3 + 5 + 1);
        x.paint(true, 24, GREEN);
        due("a way to the left edge", x.count(HOLES), 0);
        due("it is clear to its end", x.count(CLEAR_PIXELS), 16);
        for (int out : new int[] {1, 6, 41, 46, 15, 32, 39}) {
            x.paint(true, 24, RED);
            x.paint(true, out, GREEN);
            due("a way out at " + out, x.count(HOLES), 0);
            x.paint(true, out, RED);
            due("no way out at " + out, x.count(HOLES), 15);
        }
    }

    private static void count() {
        promise = 10;
        GlassSpill x = allGreen();
        x.fill(false, 0, 47, 0x125);
        frontRow(x, 0, "0f0", "060", "f00", "f80", "f88", "8f8", "080", "125");
        x.set(1, 19);
        x.set(0, 7);
        // distances: 0, 9, 30, 22, 30, 16, 7, 19
        due("NEAR", x.count(0), 7);
        due("FAR", x.count(1), 19);
        due("screen", x.count(6), GREEN);
        due("clear", x.count(CLEAR_PIXELS), 42);
        due("soft", x.count(SOFT_PIXELS), 0);
        due("hair", x.count(HAIR_PIXELS), 2);
        due("body", x.count(BODY_PIXELS), 4);
        due("glass", x.count(GLASS_PIXELS), 0);
        // 16 * 2 / 12 and 16 * 9 / 12 beside the four bodies
        due("opaque", x.count(OPAQUE), 2 + 12 + 64);
        due("spill", x.count(SPILL), 41 * 15 + 6 + 7 + 8);
        due("taken out", x.count(TAKEN), 3 + 3);
        due("holes", x.count(HOLES), 0);
        // those that are clear, that of the colour of the back, and no other one
        due("like the back", x.count(LIKE_BACK), 43);
        due("like the front", x.count(LIKE_FRONT), 4);
        due("marked", x.count(MARKED), 0);
        x.mark(1, true);
        x.mark(5, true);
        due("marked then", x.count(MARKED), 2);
        due("glass then", x.count(GLASS_PIXELS), 2);
        due("hair then", x.count(HAIR_PIXELS), 0);
        due("taken out then", x.count(TAKEN), 1 + 1);
        x.paint(true, 40, 0x060);
        due("soft then", x.count(SOFT_PIXELS), 1);
        write(x, "abc");
        due("pad", x.count(PAD), 3);
        due("undoable", x.count(UNDOABLE), 6);
        for (int what : new int[] {21, -1, Integer.MAX_VALUE, Integer.MIN_VALUE}) {
            due("count(" + what + ")", x.count(what), BAD_VALUE);
        }
    }

    private static void row() {
        promise = 11;
        GlassSpill x = allGreen();
        frontRow(x, 5, "0f0", "060", "f00", "f80", "f88", "8f8", "060", "060");
        x.paint(true, 38, 0x060);
        x.mark(42, true);
        // below the top row: the pixel 38 is opaque by 4; 46 and 47 have no body beside them
        due("clear", x.row(5, 0), 0b00000001);
        due("soft", x.row(5, 1), 0b11000000);
        due("hair", x.row(5, 2), 0b00100010);
        due("body", x.row(5, 3), 0b00011000);
        due("glass", x.row(5, 4), 0b00000100);
        due("clear in the row above", x.row(4, 0), 0b10111111);
        due("the first row", x.row(0, 0), 255);
        due("none in the first row", x.row(0, 4), 0);
        due("no row", x.row(6, 0), NO_SUCH);
        due("below the rows", x.row(-1, 0), NO_SUCH);
        due("no row before no kind", x.row(6, 5), NO_SUCH);
        due("no kind", x.row(0, 5), BAD_VALUE);
        due("below the kinds", x.row(0, -1), BAD_VALUE);
    }

    private static void bestScreen() {
        promise = 12;
        GlassSpill x = new GlassSpill();
        due("all the same", x.bestScreen(0), 0);
        due("all clear", x.bestScreen(1), 48);
        x.fill(true, 0, 47, 0xf0f);
        x.fill(true, 17, 30, BLUE);
        x.fill(true, 40, 47, RED);
        // 28 pixels of 0xf0f, 12 of blue, 8 of red
        due("the most", x.bestScreen(0), 0);
        due("so many", x.bestScreen(1), 28);
        x.fill(true, 0, 7, BLUE);
        due("of two the lowest", x.bestScreen(0), 0);
        due("so many", x.bestScreen(1), 20);
        x.paint(true, 0, 0xf0f);
        due("one more of the other", x.bestScreen(1), 21);
        x.paint(true, 0, BLUE);
        x.mark(1, true);
        due("a marked one does not count", x.bestScreen(1), 20);
        due("so the other one is found", x.bestScreen(0), 8);
        x.mark(8, true);
        due("the marked one may be the pixel", x.bestScreen(0), 0);
        due("of fewer", x.bestScreen(1), 19);
        x.set(1, 15);
        x.set(5, 1);
        // with blue as the screen, its pixels of the rows 2 and 3 are a hole, those of the first row are not
        due("holes do not count", x.bestScreen(0), 8);
        due("so many", x.bestScreen(1), 19);
        x.set(5, 0);
        x.set(1, 45);
        x.set(0, 15);
        // with 0xf0f as the screen blue and red are 15 off, but they are 30 off from one another
        due("near enough", x.bestScreen(0), 8);
        due("so many", x.bestScreen(1), 46);
        due("the screen stays", x.count(6), GREEN);
        due("not 0 or 1", x.bestScreen(2), BAD_VALUE);
        due("below 0", x.bestScreen(-1), BAD_VALUE);
        allMarked();
    }

    private static void allMarked() {
        GlassSpill x = new GlassSpill();
        for (int pixel = 0; pixel < 48; pixel++) {
            x.mark(pixel, true);
        }
        due("the lowest if all are marked", x.bestScreen(0), 0);
        due("none clear if all are marked", x.bestScreen(1), 0);
        x.mark(47, false);
        due("the lowest of the same colour", x.bestScreen(0), 0);
        x.paint(true, 47, WHITE);
        due("the last", x.bestScreen(0), 47);
        due("one", x.bestScreen(1), 1);
    }

    private static void leastNear() {
        promise = 13;
        GlassSpill x = new GlassSpill();
        due("black", x.leastNear(0), 15);
        x.paint(true, 1, GREEN);
        due("the screen", x.leastNear(1), 0);
        x.paint(true, 1, 0x200);
        due("below FAR", x.leastNear(1), 17);
        x.paint(true, 1, 0x300);
        due("at FAR", x.leastNear(1), NONE);
        x.set(1, 19);
        due("below another FAR", x.leastNear(1), 18);
        x.paint(true, 47, 0xf0f);
        x.set(1, 45);
        due("the greatest distance", x.leastNear(47), NONE);
        x.paint(true, 47, 0xf1f);
        due("the greatest below FAR", x.leastNear(47), 44);
        x.mark(47, true);
        due("marked", x.leastNear(47), 44);
        due("NEAR stays", x.count(0), 6);
        due("no pixel", x.leastNear(48), NO_SUCH);
        due("below the pixels", x.leastNear(-1), NO_SUCH);
    }

    private static void ifSet() {
        promise = 14;
        GlassSpill x = allGreen();
        x.fill(false, 0, 47, WHITE);
        x.fill(true, 18, 29, 0x060);
        x.fill(true, 19, 20, RED);
        // row 2: hair, body, body, hair; row 3: soft, hair, hair, soft
        due("hair", x.row(2, 2), 0b100100);
        due("hair below", x.row(3, 2), 0b011000);
        due("the same", x.ifSet(0, 6), 0);
        due("another NEAR", x.ifSet(0, 9), 6);
        due("another FAR", x.ifSet(1, 9), 6);
        due("a FAR that lets bodies be", x.ifSet(1, 30), 6);
        due("a FAR that does not", x.ifSet(1, 45), 8);
        due("another BODY", x.ifSet(2, 0), 2);
        // the green part: (15 * 12 + 4 * 3) / 16 is 12, with 4 * 6 also, and 11 only with 0
        due("another HAIR", x.ifSet(3, 16), 4);
        due("another HAIR that is rounded", x.ifSet(3, 0), 0);
        due("another GLASS", x.ifSet(4, 0), 0);
        x.mark(26, true);
        due("another GLASS with glass", x.ifSet(4, 16), 1);
        due("no hole", x.ifSet(5, 1), 0);
        x.fill(true, 9, 14, RED);
        x.fill(true, 33, 38, RED);
        x.fill(true, 9, 33, RED);
        x.fill(true, 14, 38, RED);
        due("holes", x.ifSet(5, 1), 6);
        due("CLOSE stays", x.count(5), 0);
        due("no setting", x.ifSet(6, 0), BAD_VALUE);
        due("below the settings", x.ifSet(-1, 0), BAD_VALUE);
        due("out of range", x.ifSet(0, 46), BAD_VALUE);
        due("below 0", x.ifSet(1, -1), BAD_VALUE);
        due("out of range", x.ifSet(2, 17), BAD_VALUE);
        due("out of range", x.ifSet(5, 2), BAD_VALUE);
        due("NEAR at FAR", x.ifSet(0, 18), NOT_POSSIBLE);
        due("FAR at NEAR", x.ifSet(1, 6), NOT_POSSIBLE);
        due("nothing is recorded", x.count(UNDOABLE), 6);
    }

    private static void bestShare() {
        promise = 15;
        GlassSpill x = allGreen();
        x.paint(true, 20, 0xf86);
        x.paint(true, 21, 0xcf0);
        x.paint(true, 22, 0x8f8);
        // distances 28, 12, 16: body, soft beside it with the clear ones: hair, and soft
        due("kinds", x.row(2, 3), 0b010000);
        due("kinds", x.row(2, 2), 0b100000);
        due("kinds", x.row(2, 1), 0b1000000);
        due("the composed soft one has no spill", x.pixel(22, 9), 0x666);
        // the hair is opaque by 8: red 6, green (15 - taken) / 2, which is 6 with 2 taken: 3 * 11 / 16
        due("the hair", x.pixel(21, 9), 0x670);
        due("least spill with BODY", x.bestShare(2, 1), 1);
        due("the share of hair", x.bestShare(3, 0), 11);
        due("the spill that is left", x.bestShare(3, 1), 0);
        x.set(3, 0);
        due("with another HAIR", x.bestShare(2, 1), 1);
        // the soft one is opaque by 13: green (15 - taken) * 13 / 16 is 6 with 7 taken, which 16 * 7 / 16 is
        due("the share of body", x.bestShare(2, 0), 16);
        x.mark(22, true);
        due("the share of body without spill", x.bestShare(2, 0), 0);
        // 1 is taken out of the glass: green 14 * 13 / 16
        due("the spill that is left", x.bestShare(2, 1), 1 + 5);
        due("the share of glass", x.bestShare(4, 0), 16);
        due("the spill that is left", x.bestShare(4, 1), 1);
        due("HAIR stays", x.count(3), 0);
        due("NEAR is no share", x.bestShare(0, 0), BAD_VALUE);
        due("FAR is no share", x.bestShare(1, 0), BAD_VALUE);
        due("CLOSE is no share", x.bestShare(5, 0), BAD_VALUE);
        due("no setting", x.bestShare(6, 0), BAD_VALUE);
        due("below the settings", x.bestShare(-1, 0), BAD_VALUE);
        due("not 0 or 1", x.bestShare(2, 2), BAD_VALUE);
        due("below 0", x.bestShare(2, -1), BAD_VALUE);
        x.screen(BLUE);
        x.fill(false, 0, 47, 0x00f);
        x.fill(true, 0, 47, BLUE);
        due("spill of the back", x.bestShare(2, 1), 48 * 15);
        x.screen(GREEN);
        due("by the main part of the screen", x.bestShare(2, 1), 0);
    }

    private static void put() {
        promise = 16;
        GlassSpill x = new GlassSpill();
        due("one", x.put('a'), 1);
        due("two", x.put(packed("bc")), 3);
        due("read in their order", x.read(true, 0), 1);
        due("the colour", x.pixel(0, 0), 0xabc);
        due("the lowest code", x.put(33), 1);
        due("the highest code", x.put(126), 2);
        due("a code too low", x.put(32), BAD_VALUE);
        due("a code too high", x.put(127), BAD_VALUE);
        due("a code of 8 bits", x.put(255), BAD_VALUE);
        due("no character", x.put(0), BAD_VALUE);
        due("0 at the end", x.put('a' << 8), BAD_VALUE);
        due("0 in the middle", x.put('a' << 16 | 'a'), BAD_VALUE);
        due("a bit above 0", x.put(1L << 63 | 'a'), BAD_VALUE);
        due("all bits", x.put(-1), BAD_VALUE);
        due("the least", x.put(Long.MIN_VALUE), BAD_VALUE);
        due("the first of eight too high", x.put(packed("aaaaaaa") | 128L << 56), BAD_VALUE);
        due("the first of eight too low", x.put(packed("aaaaaaa") | 32L << 56), BAD_VALUE);
        due("the pad stays", x.count(PAD), 2);
        x.wipe();
        for (int i = 1; i <= 5; i++) {
            due("eight", x.put(packed("12345678")), 8 * i);
        }
        due("seven", x.put(packed("1234567")), 47);
        due("two too many", x.put(packed("12")), TOO_MANY);
        due("a bad one before too many", x.put(32 << 8 | '1'), BAD_VALUE);
        due("the last", x.put('.'), 48);
        due("one too many", x.put('1'), TOO_MANY);
        due("the pad stays", x.wipe(), 48);
        due("no change", x.count(UNDOABLE), 1);
    }

    private static void wipe() {
        promise = 17;
        GlassSpill x = new GlassSpill();
        x.put(packed("12345"));
        due("wipe", x.wipe(), 5);
        due("empty", x.count(PAD), 0);
        due("wipe again", x.wipe(), 0);
        due("fault of the empty pad", x.fault(), 0);
        x.put(packed("abc"));
        due("nothing is left of it", x.fault(), NONE);
        due("no change", x.count(UNDOABLE), 0);
    }

    private static void fault() {
        promise = 18;
        Object[][] texts = {
            {"abc", NONE}, {".", NONE}, {"........", NONE}, {".........", 8}, {"........a", 8}, {"a", 1}, {"ab", 2},
            {"a.", 1}, {"ab.", 2}, {"abc.", NONE}, {".abc", NONE}, {".a", 2}, {"g", 0}, {"A", 0}, {"abF", 2}, {"ab`", 2},
            {"09f", NONE}, {"/00", 0}, {":00", 0}, {"abcg", 3}, {"abc.12", 6}, {"abc,abc", 3},
            {"000111222333444555666777", NONE}, {"0001112223334445556667778", 24}, {"000111222333444555666777.", 24},
            {"00011122233344455566677", 23}, {"0001112223334445556667.7", 22}, {".......12", 9}, {".......123", NONE},
            {".......1234", 10}, {".......123G", 10}, {"-", 0}, {"abc!abc", 3}, {"abc~", 3},
        };
        for (Object[] one : texts) {
            GlassSpill x = new GlassSpill();
            write(x, (String) one[0]);
            due("fault of " + one[0], x.fault(), (Integer) one[1]);
            due("read of " + one[0], x.read(true, 0) == BAD_TEXT ? 1 : 0, (Integer) one[1] == NONE ? 0 : 1);
        }
    }

    private static void undo() {
        promise = 19;
        GlassSpill x = new GlassSpill();
        for (int i = 1; i <= 9; i++) {
            x.paint(true, 0, i);
            due("changes", x.count(UNDOABLE), Math.min(i, 6));
        }
        x.put(packed("abc"));
        for (int i = 1; i <= 6; i++) {
            due("undo", x.undo(), 6 - i);
            due("the colour", x.pixel(0, 0), 9 - i);
        }
        due("no more", x.undo(), NOT_POSSIBLE);
        due("the colour", x.pixel(0, 0), 3);
        due("the pad", x.count(PAD), 3);
        x.paint(true, 0, 7);
        x.paint(true, 0, 7);
        due("also without a difference", x.count(UNDOABLE), 2);
        x.undo();
        x.paint(true, 0, 8);
        due("over one that was undone", x.undo(), 1);
        due("the colour", x.pixel(0, 0), 7);
        due("the first of them", x.undo(), 0);
        due("the colour", x.pixel(0, 0), 3);
        x.save(0);
        x.paint(true, 0, 12);
        x.undo();
        x.restore(0);
        due("the slot stays", x.pixel(0, 0), 3);
    }

    private static void undoOfEachChange() {
        promise = 19;
        GlassSpill x = new GlassSpill();
        x.set(0, 5);
        x.undo();
        due("set", x.count(0), 6);
        x.screen(5);
        x.undo();
        due("screen", x.count(6), GREEN);
        x.paint(false, 3, 5);
        x.undo();
        due("paint", x.pixel(3, 1), 0);
        x.fill(true, 0, 47, 5);
        x.undo();
        due("fill", x.pixel(30, 0), 0);
        x.put(packed("fff"));
        x.read(true, 1);
        x.undo();
        due("read", x.pixel(8, 0), 0);
        due("the pad stays empty", x.count(PAD), 0);
        x.mark(9, true);
        x.undo();
        due("mark", x.count(MARKED), 0);
        x.save(1);
        x.paint(true, 0, BLACK);
        x.paint(true, 0, RED);
        x.restore(1);
        due("restore is a change", x.count(UNDOABLE), 3);
        due("undo", x.undo(), 2);
        due("restore", x.pixel(0, 0), RED);
    }

    private static void save() {
        promise = 20;
        GlassSpill x = new GlassSpill();
        due("save", x.save(0), 0);
        x.mark(1, true);
        x.mark(2, true);
        due("save in the other", x.save(1), 2);
        due("no change", x.count(UNDOABLE), 2);
        due("no slot", x.save(2), BAD_VALUE);
        due("below the slots", x.save(-1), BAD_VALUE);
        x.mark(1, false);
        due("save over", x.save(1), 1);
        x.mark(2, false);
        due("restore what is new", x.restore(1), 1);
        due("that one", x.pixel(2, 5), 4);
        due("the other slot", x.restore(0), 0);
    }

    private static void restore() {
        promise = 21;
        GlassSpill x = new GlassSpill();
        due("nothing saved", x.restore(0), NOT_POSSIBLE);
        due("no slot", x.restore(2), BAD_VALUE);
        due("below the slots", x.restore(-1), BAD_VALUE);
        due("no change", x.count(UNDOABLE), 0);
        x.set(0, 3);
        x.set(5, 1);
        x.screen(BLUE);
        x.paint(true, 7, RED);
        x.paint(false, 8, WHITE);
        x.mark(9, true);
        x.put(packed("ab"));
        x.save(0);
        due("nothing saved in the other", x.restore(1), NOT_POSSIBLE);
        x.set(0, 4);
        x.set(5, 0);
        x.screen(RED);
        x.fill(true, 0, 47, WHITE);
        x.fill(false, 0, 47, BLACK);
        x.mark(9, false);
        x.put('c');
        for (int time = 0; time < 2; time++) {
            due("restore", x.restore(0), 1);
            due("NEAR", x.count(0), 3);
            due("CLOSE", x.count(5), 1);
            due("screen", x.count(6), BLUE);
            due("front", x.pixel(7, 0), RED);
            due("front", x.pixel(8, 0), BLACK);
            due("back", x.pixel(8, 1), WHITE);
            due("mark", x.pixel(9, 5), 4);
            due("the pad is not saved", x.count(PAD), 3);
            x.paint(true, 7, BLACK);
            x.mark(10, true);
        }
        x.undo();
        x.undo();
        x.undo();
        due("the mark before the second restore", x.count(MARKED), 2);
        due("the history is not saved", x.count(UNDOABLE), 3);
    }
}
