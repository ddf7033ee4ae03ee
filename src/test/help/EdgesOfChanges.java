/** Boundary cases of the promises 1 to 8: a new object, and the calls that change the scene. */
final class EdgesOfChanges extends Edges {
    private EdgesOfChanges() {
    }

    static void run() {
        newObject();
        rangeOfNear();
        rangeOfFar();
        rangesOfShares();
        rangeOfClose();
        set();
        screen();
        paint();
        fill();
        fillErrors();
        read();
        readErrors();
        mark();
        keep();
    }

    // ---- promise 1

    private static void newObject() {
        sentence(1, "Creates two black pictures, with a green screen.");
        GlassSpill x = new GlassSpill();
        due("the first pixel of the front", x.pixel(0, COLOUR_OF_FRONT), BLACK);
        due("the last pixel of the front", x.pixel(47, COLOUR_OF_FRONT), BLACK);
        due("the first pixel of the back", x.pixel(0, COLOUR_OF_BACK), BLACK);
        due("the last pixel of the back", x.pixel(47, COLOUR_OF_BACK), BLACK);
        due("pixels of the front like the composed ones", x.count(LIKE_FRONT), 48);
        due("the screen", x.count(SCREEN), GREEN);
        due("marks", x.count(MARKED), 0);
        due("the pad", x.count(PAD), 0);
        due("changes", x.count(UNDOABLE), 0);
        due("the first slot", x.restore(0), NOT_POSSIBLE);
        due("the second slot", x.restore(1), NOT_POSSIBLE);
        GlassSpill other = new GlassSpill();
        other.paint(true, 0, WHITE);
        other.set(CLOSE, 1);
        other.save(0);
        due("a pixel after another object was painted", x.pixel(0, COLOUR_OF_FRONT), BLACK);
        due("a setting after that of another object", x.count(CLOSE), 0);
        due("a slot after that of another object", x.restore(0), NOT_POSSIBLE);
    }

    // ---- promise 2

    private static void rangeOfNear() {
        sentence(2, "NEAR (0 to 45; 6)");
        GlassSpill x = new GlassSpill();
        due("at first", x.count(NEAR), 6);
        x.set(FAR, 45);
        due("set of the least", x.set(NEAR, 0), 6);
        due("set of the greatest below FAR", x.set(NEAR, 44), 0);
        due("set of the greatest", x.set(NEAR, 45), NOT_POSSIBLE);
        outOfRange("set of NEAR", 0, 45, value -> x.set(NEAR, value), BAD_VALUE);
        due("what is set", x.count(NEAR), 44);
    }

    private static void rangeOfFar() {
        sentence(2, "FAR (0 to 45; 18)");
        GlassSpill x = new GlassSpill();
        due("at first", x.count(FAR), 18);
        x.set(NEAR, 0);
        due("set of the greatest", x.set(FAR, 45), 18);
        due("set of the least above NEAR", x.set(FAR, 1), 45);
        due("set of the least", x.set(FAR, 0), NOT_POSSIBLE);
        outOfRange("set of FAR", 0, 45, value -> x.set(FAR, value), BAD_VALUE);
        due("what is set", x.count(FAR), 1);
    }

    private static void rangesOfShares() {
        String[] words = {"BODY (0 to 16; 16)", "HAIR (0 to 16; 8)", "GLASS (0 to 16; 4)"};
        int[] first = {16, 8, 4};
        for (int i = 0; i < words.length; i++) {
            int setting = BODY + i;
            sentence(2, words[i]);
            GlassSpill x = new GlassSpill();
            due("at first", x.count(setting), first[i]);
            due("set of the least", x.set(setting, 0), first[i]);
            due("set of the greatest", x.set(setting, 16), 0);
            outOfRange("set", 0, 16, value -> x.set(setting, value), BAD_VALUE);
            due("what is set", x.count(setting), 16);
        }
        sentence(9, ": sixteenths.");
        GlassSpill x = new GlassSpill();
        x.paint(true, 20, GREEN);
        x.mark(20, true);
        for (int sixteenths = 0; sixteenths <= 16; sixteenths++) {
            x.set(GLASS, sixteenths);
            due("taken out by " + sixteenths, x.pixel(20, TAKEN), 15 * sixteenths / 16);
        }
    }

    private static void rangeOfClose() {
        sentence(2, "CLOSE (0 or 1; 0)");
        GlassSpill x = new GlassSpill();
        due("at first", x.count(CLOSE), 0);
        due("set to 1", x.set(CLOSE, 1), 0);
        due("set to 1 again", x.set(CLOSE, 1), 1);
        outOfRange("set", 0, 1, value -> x.set(CLOSE, value), BAD_VALUE);
        due("what is set", x.count(CLOSE), 1);
        due("set to 0", x.set(CLOSE, 0), 1);
    }

    private static void set() {
        sentence(2, "(In parentheses: range; first value.)");
        GlassSpill x = new GlassSpill();
        int[] first = {6, 18, 16, 8, 4, 0};
        for (int setting = 0; setting < first.length; setting++) {
            due("set of " + setting + " to its first value", x.set(setting, first[setting]), first[setting]);
        }
        sentence(2, "NEAR is below FAR.");
        due("NEAR just below FAR", x.set(NEAR, 17), 6);
        due("NEAR at FAR", x.set(NEAR, 18), NOT_POSSIBLE);
        due("NEAR above FAR", x.set(NEAR, 19), NOT_POSSIBLE);
        due("FAR at NEAR", x.set(FAR, 17), NOT_POSSIBLE);
        due("FAR below NEAR", x.set(FAR, 16), NOT_POSSIBLE);
        due("FAR just above NEAR", x.set(FAR, 18), 18);
        sentence(2, "Changes a setting.");
        x.set(HAIR, 3);
        int[] then = {17, 18, 16, 3, 4, 0};
        for (int setting = 0; setting < then.length; setting++) {
            due("the setting " + setting, x.count(setting), then[setting]);
        }
        sentence(2, "This is a change.");
        isOneChange("set", GlassSpill::new, y -> y.set(GLASS, 7));
        isOneChange("set of what is set", Edges::busy, y -> y.set(GLASS, 4));
        sentence(2, "Returns the previous value");
        due("set", x.set(BODY, 1), 16);
        due("set once more", x.set(BODY, 0), 1);
        due("set of the same", x.set(BODY, 0), 0);
        sentence(2, "BAD_VALUE if there is no such setting, or value is out of its range");
        outOfRange("set of a setting", 0, 5, setting -> x.set(setting, 1), BAD_VALUE);
        due("BODY above its range", x.set(BODY, 17), BAD_VALUE);
        due("NEAR below its range", x.set(NEAR, -1), BAD_VALUE);
        due("CLOSE above its range, as BODY may be", x.set(CLOSE, 16), BAD_VALUE);
        due("HAIR above its range, as NEAR may be", x.set(HAIR, 45), BAD_VALUE);
        sentence(2, "NOT_POSSIBLE if NEAR would not be below FAR.");
        GlassSpill fresh = new GlassSpill();
        due("NEAR at FAR", fresh.set(NEAR, 18), NOT_POSSIBLE);
        due("NEAR at its greatest", fresh.set(NEAR, 45), NOT_POSSIBLE);
        due("FAR at NEAR", fresh.set(FAR, 6), NOT_POSSIBLE);
        due("FAR at its least", fresh.set(FAR, 0), NOT_POSSIBLE);
        due("a share beyond FAR", fresh.set(FAR, 7), 18);
        due("is possible", fresh.set(HAIR, 16), 8);
    }

    // ---- promise 3

    private static void screen() {
        sentence(3, "Changes the colour of the screen.");
        GlassSpill x = new GlassSpill();
        due("screen", x.screen(RED), GREEN);
        due("the screen", x.count(SCREEN), RED);
        due("the spill is that of red", x.paint(true, 0, RED) + x.pixel(0, SPILL), 15);
        sentence(3, "This is a change.");
        isOneChange("screen", GlassSpill::new, y -> y.screen(RED));
        isOneChange("screen of the same colour", Edges::busy, y -> y.screen(0x1e0));
        sentence(3, "`colour`: 0 to 4095");
        due("the least", x.screen(0), RED);
        due("the greatest", x.screen(4095), 0);
        sentence(3, "Returns the previous one");
        due("screen", x.screen(1), 4095);
        due("screen of the same colour", x.screen(1), 1);
        sentence(3, "BAD_VALUE if colour is out of range.");
        outOfRange("screen", 0, 4095, x::screen, BAD_VALUE);
        due("the screen stays", x.count(SCREEN), 1);
    }

    // ---- promise 4

    private static void paint() {
        sentence(4, "Changes a pixel of the front, or of the back.");
        GlassSpill x = new GlassSpill();
        int[] corners = {0, 7, 40, 47};
        for (int pixel : corners) {
            x.paint(true, pixel, 0x100 + pixel);
            x.paint(false, pixel, 0x200 + pixel);
        }
        for (int pixel = 0; pixel < 48; pixel++) {
            boolean isCorner = pixel == 0 || pixel == 7 || pixel == 40 || pixel == 47;
            due("the front at " + pixel, x.pixel(pixel, COLOUR_OF_FRONT), isCorner ? 0x100 + pixel : 0);
            due("the back at " + pixel, x.pixel(pixel, COLOUR_OF_BACK), isCorner ? 0x200 + pixel : 0);
        }
        sentence(4, "This is a change.");
        isOneChange("paint of the front", GlassSpill::new, y -> y.paint(true, 47, RED));
        isOneChange("paint of the back", GlassSpill::new, y -> y.paint(false, 0, RED));
        isOneChange("paint with the same colour", Edges::busy, y -> y.paint(true, 20, 0x060));
        sentence(4, "`colour`: 0 to 4095");
        due("the greatest", x.paint(true, 1, 4095), 0);
        due("the least", x.paint(true, 1, 0), 4095);
        sentence(4, "Returns the previous one");
        due("paint of the front", x.paint(true, 1, 0x123), 0);
        due("paint of the back", x.paint(false, 1, 0x456), 0);
        due("paint of the front again", x.paint(true, 1, 0x123), 0x123);
        due("paint of the back again", x.paint(false, 1, 0), 0x456);
        sentence(4, "NO_SUCH if there is no such pixel");
        outOfRange("paint of the front", 0, 47, pixel -> x.paint(true, pixel, 0), NO_SUCH);
        outOfRange("paint of the back", 0, 47, pixel -> x.paint(false, pixel, 0), NO_SUCH);
        sentence(4, "BAD_VALUE if colour is out of range.");
        outOfRange("paint of the front with a colour", 0, 4095, colour -> x.paint(true, 47, colour), BAD_VALUE);
        outOfRange("paint of the back with a colour", 0, 4095, colour -> x.paint(false, 0, colour), BAD_VALUE);
    }

    // ---- promise 5

    private static void dueFilled(boolean isFront, int pixel, int other, int want) {
        GlassSpill x = new GlassSpill();
        String call = "fill from " + pixel + " to " + other;
        due(call, x.fill(isFront, pixel, other, 0xabc), want);
        int left = Math.min(pixel % 8, other % 8);
        int right = Math.max(pixel % 8, other % 8);
        int top = Math.min(pixel / 8, other / 8);
        int bottom = Math.max(pixel / 8, other / 8);
        for (int i = 0; i < 48; i++) {
            boolean isInside = i % 8 >= left && i % 8 <= right && i / 8 >= top && i / 8 <= bottom;
            due(call + ", front at " + i, x.pixel(i, COLOUR_OF_FRONT), isInside && isFront ? 0xabc : 0);
            due(call + ", back at " + i, x.pixel(i, COLOUR_OF_BACK), isInside && !isFront ? 0xabc : 0);
        }
    }

    private static void fill() {
        sentence(5, "Fills a rectangle of pixels with a colour: those between two pixels, both counted, in columns and in rows.");
        dueFilled(true, 10, 29, 12);
        dueFilled(true, 29, 10, 12);
        dueFilled(true, 13, 26, 12);
        dueFilled(true, 26, 13, 12);
        dueFilled(false, 0, 47, 48);
        dueFilled(false, 47, 0, 48);
        dueFilled(true, 7, 40, 48);
        dueFilled(true, 40, 7, 48);
        dueFilled(false, 0, 7, 8);
        dueFilled(false, 47, 40, 8);
        dueFilled(true, 0, 40, 6);
        dueFilled(true, 47, 7, 6);
        dueFilled(true, 7, 8, 16);
        dueFilled(true, 0, 0, 1);
        dueFilled(true, 47, 47, 1);
        sentence(5, "This is a change.");
        isOneChange("fill of the front", GlassSpill::new, y -> y.fill(true, 0, 47, 5));
        isOneChange("fill of the back", GlassSpill::new, y -> y.fill(false, 0, 47, 5));
        isOneChange("fill with the same colour", Edges::busy, y -> y.fill(true, 11, 13, RED));
        sentence(5, "`colour`: 0 to 4095");
        GlassSpill x = new GlassSpill();
        due("the greatest", x.fill(true, 0, 1, 4095), 2);
        due("what is filled", x.pixel(1, COLOUR_OF_FRONT), 4095);
        due("the least", x.fill(true, 0, 1, 0), 2);
        due("what is filled", x.pixel(1, COLOUR_OF_FRONT), 0);
        sentence(5, "Returns how many pixels are filled");
        due("fill with the colour that all have", x.fill(true, 0, 47, 0), 48);
        due("fill of one", x.fill(true, 20, 20, 0), 1);
        due("fill of a row", x.fill(false, 16, 23, 9), 8);
    }

    private static void fillErrors() {
        GlassSpill x = new GlassSpill();
        sentence(5, "NO_SUCH if there is no such pixel");
        outOfRange("fill from a pixel", 0, 47, pixel -> x.fill(true, pixel, 0, 5), NO_SUCH);
        outOfRange("fill to a pixel", 0, 47, pixel -> x.fill(true, 47, pixel, 5), NO_SUCH);
        outOfRange("fill of a pixel", 0, 47, pixel -> x.fill(false, pixel, pixel, 5), NO_SUCH);
        sentence(5, "BAD_VALUE if colour is out of range.");
        outOfRange("fill of the front", 0, 4095, colour -> x.fill(true, 0, 47, colour), BAD_VALUE);
        outOfRange("fill of the back", 0, 4095, colour -> x.fill(false, 47, 47, colour), BAD_VALUE);
        due("none is filled", x.count(UNDOABLE), 0);
    }

    // ---- promise 6

    private static void dueRead(boolean isFront, int row, String text, int want, int... colours) {
        GlassSpill x = all(0x777);
        x.fill(false, 0, 47, 0x888);
        write(x, text);
        String call = "read of " + text + " to the row " + row;
        due(call, x.read(isFront, row), want);
        for (int i = 0; i < 48; i++) {
            boolean isTold = i / 8 == row && i % 8 < colours.length && colours[i % 8] >= 0;
            due(call + ", front at " + i, x.pixel(i, COLOUR_OF_FRONT), isTold && isFront ? colours[i % 8] : 0x777);
            due(call + ", back at " + i, x.pixel(i, COLOUR_OF_BACK), isTold && !isFront ? colours[i % 8] : 0x888);
        }
    }

    private static void read() {
        int none = -1;
        sentence(6, "Paints the pixels of a row as the pad tells, from the first column on");
        dueRead(true, 0, "123", 1, 0x123);
        dueRead(false, 5, "fff000", 2, 0xfff, 0);
        dueRead(true, 5, "0123456789abcdef0a1b2c3d", 8, 0x012, 0x345, 0x678, 0x9ab, 0xcde, 0xf0a, 0x1b2, 0xc3d);
        sentence(6, "and empties the pad");
        GlassSpill x = new GlassSpill();
        write(x, "123.");
        x.read(true, 0);
        due("the pad", x.count(PAD), 0);
        due("a text after that", x.put(packed("abc")), 3);
        due("read of it", x.read(true, 0), 1);
        due("what is painted", x.pixel(0, COLOUR_OF_FRONT), 0xabc);
        sentence(6, "those that are not told stay.");
        dueRead(true, 2, "123", 1, 0x123);
        dueRead(true, 2, ".......123", 1, none, none, none, none, none, none, none, 0x123);
        dueRead(false, 2, ".1234...", 0 + BAD_TEXT);
        dueRead(false, 2, ".123..456.", 2, none, 0x123, none, none, 0x456);
        dueRead(true, 2, "........", 0);
        sentence(6, "This is a change.");
        isOneChange("read", EdgesOfChanges::withText, y -> y.read(true, 1));
        isOneChange("read of no colour", EdgesOfChanges::withDot, y -> y.read(false, 1));
        sentence(6, "`row`: 0 to 5");
        dueRead(true, 0, "abc", 1, 0xabc);
        dueRead(true, 5, "abc", 1, 0xabc);
        sentence(6, "Returns how many pixels are painted");
        dueRead(true, 1, "777777", 2, 0x777, 0x777);
        dueRead(true, 1, ".", 0);
        dueRead(true, 1, ".......777", 1);
        dueRead(true, 1, "777777777777777777777777", 8);
    }

    private static GlassSpill withText() {
        GlassSpill x = busy();
        write(x, "123.456");
        return x;
    }

    private static GlassSpill withDot() {
        GlassSpill x = new GlassSpill();
        x.put('.');
        return x;
    }

    private static void readErrors() {
        GlassSpill x = new GlassSpill();
        write(x, "abc");
        sentence(6, "NO_SUCH if there is no such row");
        outOfRange("read to the front", 0, 5, row -> x.read(true, row), NO_SUCH);
        outOfRange("read to the back", 0, 5, row -> x.read(false, row), NO_SUCH);
        due("the pad stays", x.count(PAD), 3);
        sentence(6, "BAD_TEXT if the pad has a fault.");
        String[] texts = {"", "a", "ab", "abcd", ".a", "a.", "g", "abcg", ".........", "000111222333444555666777.", "ABC"};
        for (String text : texts) {
            write(x, text);
            due("read of " + text, x.read(true, 0), BAD_TEXT);
            due("the pad stays", x.count(PAD), text.length());
            due("the front stays", x.pixel(0, COLOUR_OF_FRONT), 0);
        }
        write(x, "abc");
        due("read of abc", x.read(true, 0), 1);
    }

    // ---- promise 7

    private static void mark() {
        sentence(7, "Marks a pixel as glass, or not.");
        GlassSpill x = new GlassSpill();
        x.mark(0, true);
        x.mark(47, true);
        due("the kind of the first", x.pixel(0, KIND), IS_GLASS);
        due("the kind of the last", x.pixel(47, KIND), IS_GLASS);
        due("the kind of another", x.pixel(1, KIND), IS_SOFT);
        x.mark(0, false);
        due("the kind of the first", x.pixel(0, KIND), IS_SOFT);
        sentence(7, "This is a change.");
        isOneChange("mark", GlassSpill::new, y -> y.mark(47, true));
        isOneChange("the end of a mark", Edges::busy, y -> y.mark(9, false));
        sentence(7, "Returns how many are marked then");
        GlassSpill other = new GlassSpill();
        for (int pixel = 0; pixel < 48; pixel++) {
            due("mark", other.mark(pixel, true), pixel + 1);
        }
        for (int pixel = 0; pixel < 48; pixel++) {
            due("the end of a mark", other.mark(pixel, false), 47 - pixel);
        }
        sentence(7, "NO_SUCH if there is no such pixel");
        outOfRange("mark", 0, 47, pixel -> x.mark(pixel, true), NO_SUCH);
        outOfRange("the end of a mark", 0, 47, pixel -> x.mark(pixel, false), NO_SUCH);
        sentence(7, "NOT_POSSIBLE if it is so already.");
        due("mark of a marked one", x.mark(47, true), NOT_POSSIBLE);
        due("no mark where there is none", x.mark(0, false), NOT_POSSIBLE);
        due("the marked one", x.mark(47, false), 0);
        due("no mark where there was one", x.mark(47, false), NOT_POSSIBLE);
    }

    // ---- promise 8

    private static void keep() {
        sentence(8, "Makes the front what is composed now");
        GlassSpill x = picture("#-.-+");
        x.fill(false, 0, 47, 0x3c9);
        x.mark(3, true);
        int[] composed = new int[48];
        for (int pixel = 0; pixel < 48; pixel++) {
            composed[pixel] = x.pixel(pixel, COMPOSED);
        }
        due("hair, composed", composed[1], 0x296);
        due("keep", x.keep(), 47);
        for (int pixel = 0; pixel < 48; pixel++) {
            due("the front at " + pixel, x.pixel(pixel, COLOUR_OF_FRONT), composed[pixel]);
            due("the back at " + pixel, x.pixel(pixel, COLOUR_OF_BACK), 0x3c9);
        }
        due("the screen", x.count(SCREEN), GREEN);
        sentence(8, "all marks go.");
        due("marks", x.count(MARKED), 0);
        x.mark(0, true);
        x.mark(47, true);
        x.keep();
        due("marks again", x.count(MARKED), 0);
        sentence(8, "This is a change.");
        isOneChange("keep", Edges::busy, GlassSpill::keep);
        isOneChange("keep of what is there", GlassSpill::new, GlassSpill::keep);
        sentence(8, "Returns how many pixels of it are other ones by that.");
        due("keep of black pictures", new GlassSpill().keep(), 0);
        GlassSpill clear = all(GREEN);
        due("keep of clear ones", clear.keep(), 48);
        due("keep of them again", clear.keep(), 0);
        GlassSpill body = all(RED);
        body.fill(true, 8, 15, GREEN);
        body.fill(false, 8, 11, GREEN);
        body.mark(0, true);
        due("keep of bodies and of a back that is the same", body.keep(), 4);
        GlassSpill spilled = all(0xaf9);
        due("keep of bodies with spill", spilled.keep(), 48);
        due("keep of them without it", spilled.keep(), 0);
    }
}
