/** Boundary cases of the promises 9 to 15: the calls that tell what there is, or what would be. */
final class EdgesOfAnswers extends Edges {
    private EdgesOfAnswers() {
    }

    static void run() {
        nothingChanges();
        pixel();
        countOfSettingsAndKinds();
        countOfAmounts();
        countOfPicturesAndTexts();
        row();
        bestScreen();
        bestScreenOfHoles();
        leastNear();
        ifSet();
        ifSetErrors();
        bestShare();
        bestShareOfTheBack();
    }

    private static void nothingChanges() {
        String words = "---- what there is; nothing changes.";
        for (int what = 0; what <= 9; what++) {
            int number = what;
            sentence(9, words);
            leavesAll("pixel", x -> x.pixel(20, number), busy().pixel(20, number));
        }
        sentence(10, words);
        for (int what = 0; what <= 20; what++) {
            int number = what;
            leavesAll("count", x -> x.count(number), busy().count(number));
        }
        sentence(11, words);
        leavesAll("row", x -> x.row(1, 4), 0b10);
        String ifWords = "---- what if; nothing changes.";
        sentence(12, ifWords);
        leavesAll("bestScreen", x -> x.bestScreen(0), 0);
        leavesAll("bestScreen", x -> x.bestScreen(1), 42);
        sentence(13, ifWords);
        leavesAll("leastNear", x -> x.leastNear(20), 9);
        leavesAll("leastNear", x -> x.leastNear(12), NONE);
        sentence(14, ifWords);
        leavesAll("ifSet", x -> x.ifSet(CLOSE, 1), 0);
        leavesAll("ifSet of NEAR", x -> x.ifSet(NEAR, 1), busy().ifSet(NEAR, 1));
        sentence(15, ifWords);
        leavesAll("bestShare", x -> x.bestShare(HAIR, 0), busy().bestShare(HAIR, 0));
        leavesAll("bestShare", x -> x.bestShare(GLASS, 1), busy().bestShare(GLASS, 1));
    }

    // ---- promise 9

    private static void pixel() {
        sentence(9, "Returns something about a pixel.");
        GlassSpill x = picture("", "", ".-#");
        x.fill(false, 0, 47, 0x3c9);
        x.paint(false, 47, 0x123);
        due("the first one's back", x.pixel(0, COLOUR_OF_BACK), 0x3c9);
        due("the last one's back", x.pixel(47, COLOUR_OF_BACK), 0x123);
        sentence(9, "`what`: 0 its colour in the front, 1 that in the back, 2 its distance, 3 by how much it is raw opaque, 4 by how"
            + " much it is opaque, 5 its kind, 6 its spill, 7 how much of that is taken out, 8 its colour in the front with the"
            + " spill taken out, 9 its colour in the composed picture");
        int[] numbers = {0x060, 0x3c9, 9, 4, 4, 2, 6, 3, 0x030, 0x296};
        for (int what = 0; what < numbers.length; what++) {
            due("number " + what, x.pixel(17, what), numbers[what]);
        }
        x = all(RED);
        x.paint(true, 20, 0x060);
        x.set(CLOSE, 1);
        int[] ofHole = {0x060, 0, 9, 4, 16, 3, 6, 6, 0, 0};
        for (int what = 0; what < ofHole.length; what++) {
            due("number " + what + " of a hole", x.pixel(20, what), ofHole[what]);
        }
        GlassSpill y = x;
        sentence(9, "Returns the number");
        due("the least", y.pixel(0, COLOUR_OF_BACK), 0);
        y.paint(false, 0, 4095);
        due("the greatest", y.pixel(0, COLOUR_OF_BACK), 4095);
        sentence(9, "NO_SUCH if there is no such pixel");
        outOfRange("the front of a pixel", 0, 47, pixel -> y.pixel(pixel, 0), NO_SUCH);
        outOfRange("the composed colour of a pixel", 0, 47, pixel -> y.pixel(pixel, 9), NO_SUCH);
        sentence(9, "BAD_VALUE if what is out of range.");
        outOfRange("what of the first", 0, 9, what -> y.pixel(0, what), BAD_VALUE);
        outOfRange("what of the last", 0, 9, what -> y.pixel(47, what), BAD_VALUE);
    }

    // ---- promise 10

    private static void countOfSettingsAndKinds() {
        sentence(10, "Returns a number.");
        GlassSpill x = new GlassSpill();
        due("the first", x.count(0), 6);
        due("the last", x.count(20), 0);
        sentence(10, "0 to 5 the settings, 6 the colour of the screen");
        int[] values = {10, 20, 11, 12, 13, 1};
        for (int setting = 5; setting >= 0; setting--) {
            x.set(setting, values[setting]);
        }
        x.screen(4095);
        for (int setting = 0; setting < values.length; setting++) {
            due("the setting " + setting, x.count(setting), values[setting]);
        }
        due("the screen", x.count(6), 4095);
        sentence(10, "7 to 11 pixels of the kinds 0 to 4");
        x = picture("#-.-.-#", ".###");
        x.mark(47, true);
        int[] kinds = {37, 1, 2, 5, 1};
        int[] sums = new int[5];
        for (int row = 0; row < 6; row++) {
            for (int kind = 0; kind < kinds.length; kind++) {
                sums[kind] += Integer.bitCount(x.row(row, kind));
            }
        }
        for (int kind = 0; kind < kinds.length; kind++) {
            due("pixels of the kind " + kind, x.count(7 + kind), sums[kind]);
        }
        int[] all = {GREEN, 0x060, RED};
        int[][] ofAll = {{48, 0, 0, 0, 0}, {0, 48, 0, 0, 0}, {0, 0, 0, 48, 0}};
        for (int i = 0; i < all.length; i++) {
            x = all(all[i]);
            for (int kind = 0; kind < 5; kind++) {
                due("pixels of the kind " + kind + ", all " + all[i], x.count(7 + kind), ofAll[i][kind]);
            }
        }
    }

    private static void countOfAmounts() {
        sentence(10, "12 how opaque all pixels are, together");
        due("none", all(GREEN).count(12), 0);
        due("all", all(RED).count(12), 768);
        GlassSpill x = picture("#-+", "");
        due("some", x.count(12), 16 + 4 + 14);
        x = all(RED);
        x.paint(true, 20, 0x060);
        due("with a pixel that is opaque by 4", x.count(12), 47 * 16 + 4);
        x.set(CLOSE, 1);
        due("with it closed", x.count(12), 768);
        sentence(10, "13 the spill of all pixels");
        due("all of clear ones", all(GREEN).count(13), 48 * 15);
        due("none", all(RED).count(13), 0);
        due("that of soft ones", all(0x060).count(13), 48 * 6);
        sentence(10, "14 how much of that is taken out");
        due("none of clear ones", all(GREEN).count(14), 0);
        due("all of soft ones", all(0x060).count(14), 48 * 6);
        x = all(0x060);
        x.set(BODY, 1);
        due("less than one of each", x.count(14), 0);
        x.set(BODY, 3);
        due("one of each", x.count(14), 48);
        sentence(10, "15 pixels of holes that are closed");
        x = all(RED);
        x.fill(true, 9, 38, 0x060);
        due("not closed", x.count(15), 0);
        x.set(CLOSE, 1);
        due("the most", x.count(15), 24);
        x.mark(9, true);
        due("with a marked one", x.count(15), 24);
        x.fill(true, 9, 38, RED);
        due("bodies", x.count(15), 0);
        x.fill(true, 0, 47, GREEN);
        due("all clear", x.count(15), 0);
    }

    private static void countOfPicturesAndTexts() {
        sentence(10, "16 pixels of which the composed colour is that of the back");
        GlassSpill x = all(GREEN);
        due("all clear", x.count(16), 48);
        x.paint(true, 3, RED);
        due("with a body", x.count(16), 47);
        x.paint(false, 3, RED);
        due("with a body like the back", x.count(16), 48);
        due("none", all(RED).count(16), 0);
        sentence(10, "17 those of which it is that of the front");
        due("all bodies", all(RED).count(17), 48);
        due("all clear", all(GREEN).count(17), 0);
        x = all(GREEN);
        x.fill(false, 0, 7, GREEN);
        due("a row of a back that is the same", x.count(17), 8);
        due("all bodies with spill", all(0xaf9).count(17), 0);
        sentence(10, "18 marked pixels");
        x = new GlassSpill();
        due("none", x.count(18), 0);
        for (int pixel = 0; pixel < 48; pixel++) {
            x.mark(pixel, true);
        }
        due("all", x.count(18), 48);
        sentence(10, "19 the length of the pad");
        due("at first", x.count(19), 0);
        for (int i = 1; i <= 48; i++) {
            x.put('a');
            due("after " + i, x.count(19), i);
        }
        sentence(10, "20 how many changes can be undone");
        GlassSpill y = new GlassSpill();
        for (int i = 0; i <= 9; i++) {
            due("after " + i + " changes", y.count(20), Math.min(6, i));
            y.screen(i);
        }
        y.undo();
        due("after an undo", y.count(20), 5);
        sentence(10, "Returns the number");
        due("the greatest", y.screen(4095) + y.count(6), 7 + 1 + 4095);
        sentence(10, "BAD_VALUE if what is out of range.");
        outOfRange("count", 0, 20, y::count, BAD_VALUE);
    }

    // ---- promise 11

    private static void row() {
        sentence(11, "Returns the pixels of a row that are of a kind, as a bit mask (bit x for the column x).");
        for (int column = 0; column < 8; column++) {
            GlassSpill x = new GlassSpill();
            x.mark(40 + column, true);
            due("the column " + column, x.row(5, IS_GLASS), 1 << column);
            due("the other columns", x.row(5, IS_SOFT), 255 - (1 << column));
            due("another row", x.row(4, IS_GLASS), 0);
        }
        due("a whole row", all(RED).row(0, IS_BODY), 255);
        sentence(11, "`kind`: 0 to 4");
        GlassSpill x = picture("", "", "", "", "", "#-.-.-##");
        x.paint(true, 35, 0x060);
        x.paint(true, 42, RED);
        x.paint(true, 44, 0x060);
        x.mark(47, true);
        // the row is "#-#---##" with 0x060 above the fourth
        int[] masks = {0, 0b00011000, 0b00100010, 0b01000101, 0b10000000};
        for (int kind = 0; kind < masks.length; kind++) {
            due("the kind " + kind, x.row(5, kind), masks[kind]);
        }
        due("clear ones of the first row", x.row(0, IS_CLEAR), 255);
        sentence(11, "Returns the pixels;");
        due("none", x.row(0, IS_BODY), 0);
        due("all", x.row(0, IS_CLEAR), 255);
        sentence(11, "NO_SUCH if there is no such row");
        outOfRange("row", 0, 5, row -> x.row(row, IS_CLEAR), NO_SUCH);
        sentence(11, "BAD_VALUE if kind is out of range.");
        outOfRange("kind in the first row", 0, 4, kind -> x.row(0, kind), BAD_VALUE);
        outOfRange("kind in the last row", 0, 4, kind -> x.row(5, kind), BAD_VALUE);
    }

    // ---- promise 12

    private static void bestScreen() {
        sentence(12, "Finds the pixel whose colour, as the screen, would let the most pixels be clear");
        GlassSpill x = all(RED);
        due("the pixel of one colour", x.bestScreen(0), 0);
        due("all clear", x.bestScreen(1), 48);
        x.paint(true, 0, BLUE);
        due("the pixel", x.bestScreen(0), 1);
        due("so many", x.bestScreen(1), 47);
        x.fill(true, 0, 47, BLUE);
        x.paint(true, 47, RED);
        for (int pixel = 0; pixel < 47; pixel++) {
            x.mark(pixel, true);
        }
        due("the last pixel", x.bestScreen(0), 47);
        due("which is one", x.bestScreen(1), 1);
        x = all(BLACK);
        x.paint(true, 10, 0x600);
        x.paint(true, 11, 0xd00);
        due("a pixel of which another one is NEAR off", x.bestScreen(0), 0);
        due("so many", x.bestScreen(1), 47);
        x.paint(true, 11, 0xc00);
        due("the pixel from which all are NEAR off", x.bestScreen(0), 10);
        due("so many", x.bestScreen(1), 48);
        x = all(BLACK);
        x.set(FAR, 45);
        x.set(NEAR, 0);
        x.paint(true, 10, 0x200);
        x.paint(true, 11, 0x500);
        due("opaque by 0, though above NEAR", x.bestScreen(1), 47);
        x.fill(false, 0, 47, WHITE);
        due("with another back", x.bestScreen(1), 47);
        sentence(12, "(of the kind 0, so marked ones do not count)");
        x = all(RED);
        x.fill(true, 0, 23, BLUE);
        x.mark(0, true);
        due("with a marked one of the lowest", x.bestScreen(0), 24);
        due("so many", x.bestScreen(1), 24);
        x.mark(24, true);
        x.mark(25, true);
        due("with marked ones of the others", x.bestScreen(0), 0);
        due("so many", x.bestScreen(1), 23);
        sentence(12, "of several the lowest.");
        x = all(RED);
        x.fill(true, 0, 23, BLUE);
        due("of two halves", x.bestScreen(0), 0);
        x.paint(true, 0, WHITE);
        x.paint(true, 47, WHITE);
        due("of two that are less", x.bestScreen(0), 1);
        for (int pixel = 0; pixel < 48; pixel++) {
            x.mark(pixel, true);
        }
        due("if none would be clear", x.bestScreen(0), 0);
        due("which are none", x.bestScreen(1), 0);
    }

    private static void bestScreenOfHoles() {
        sentence(12, "would let the most pixels be clear (of the kind 0");
        GlassSpill x = all(RED);
        x.fill(true, 9, 38, BLUE);
        x.paint(true, 0, WHITE);
        due("the most", x.bestScreen(1), 24);
        due("the pixel", x.bestScreen(0), 9);
        x.set(CLOSE, 1);
        due("the most with holes closed", x.bestScreen(1), 23);
        due("the pixel with holes closed", x.bestScreen(0), 1);
        x.paint(true, 1, BLUE);
        due("the most with a way out", x.bestScreen(1), 25);
        due("the pixel with a way out", x.bestScreen(0), 1);
        GlassSpill y = x;
        sentence(12, "`what`: 0 the pixel, 1 how many pixels would be clear");
        x = all(RED);
        x.fill(true, 0, 7, WHITE);
        due("the pixel", x.bestScreen(0), 8);
        due("how many", x.bestScreen(1), 40);
        sentence(12, "Returns the number");
        due("the least pixel", all(RED).bestScreen(0), 0);
        due("the most of all", all(RED).bestScreen(1), 48);
        sentence(12, "BAD_VALUE if what is neither 0 nor 1.");
        outOfRange("bestScreen", 0, 1, y::bestScreen, BAD_VALUE);
    }

    // ---- promise 13

    private static void leastNear() {
        sentence(13, "Finds the least NEAR, below FAR, with which the distance of a pixel would be NEAR or less.");
        GlassSpill x = new GlassSpill();
        x.screen(BLACK);
        int[][] nears = {{0x000, 0}, {0x100, 1}, {0x600, 6}, {0x700, 7}, {0xf20, 17}};
        for (int[] one : nears) {
            x.paint(true, 47, one[0]);
            due("leastNear of " + one[0], x.leastNear(47), one[1]);
        }
        x.set(NEAR, 17);
        due("with another NEAR", x.leastNear(47), 17);
        x.paint(true, 47, 0x100);
        due("with a NEAR above it", x.leastNear(47), 1);
        x.set(FAR, 45);
        x.paint(true, 47, 0xffe);
        due("just below the greatest FAR", x.leastNear(47), 44);
        x.mark(47, true);
        x.set(CLOSE, 1);
        due("of a marked one", x.leastNear(47), 44);
        x.paint(false, 47, WHITE);
        due("with another back", x.leastNear(47), 44);
        sentence(13, "Returns the distance");
        due("the least", x.leastNear(0), 0);
        sentence(13, "NO_SUCH if there is no such pixel");
        outOfRange("leastNear", 0, 47, x::leastNear, NO_SUCH);
        sentence(13, "NONE if there is none.");
        x.paint(true, 47, WHITE);
        due("at the greatest FAR", x.leastNear(47), NONE);
        x.set(NEAR, 0);
        x.set(FAR, 1);
        x.paint(true, 47, 0x100);
        due("at the least FAR", x.leastNear(47), NONE);
        x.paint(true, 47, 0x110);
        due("above FAR", x.leastNear(47), NONE);
        due("below it", x.leastNear(46), 0);
    }

    // ---- promise 14

    private static void ifSet() {
        sentence(14, "Tells how many pixels of the composed picture would be other ones with another setting.");
        GlassSpill x = picture("", "", ".-#");
        x.fill(false, 0, 47, 0x3c9);
        due("with its NEAR", x.ifSet(NEAR, 6), 0);
        due("with its FAR", x.ifSet(FAR, 18), 0);
        due("with its HAIR", x.ifSet(HAIR, 8), 0);
        due("with another NEAR", x.ifSet(NEAR, 9), 1);
        due("with a FAR that makes a body", x.ifSet(FAR, 9), 1);
        due("with the greatest FAR", x.ifSet(FAR, 45), 2);
        due("with no share of hair", x.ifSet(HAIR, 0), 1);
        due("with a share of body", x.ifSet(BODY, 0), 0);
        due("with a share of glass", x.ifSet(GLASS, 16), 0);
        due("with holes closed", x.ifSet(CLOSE, 1), 0);
        sentence(14, "Returns how many");
        x = all(0x060);
        x.fill(false, 0, 47, 0x3c9);
        due("all", x.ifSet(NEAR, 9), 48);
        due("all by BODY", x.ifSet(BODY, 0), 48);
        due("none", x.ifSet(BODY, 16), 0);
        x = all(RED);
        x.fill(true, 9, 38, GREEN);
        due("those of a hole", x.ifSet(CLOSE, 1), 0);
        x.fill(false, 0, 47, WHITE);
        due("those of a hole that is seen", x.ifSet(CLOSE, 1), 24);
        x.set(CLOSE, 1);
        due("those of a hole that is opened", x.ifSet(CLOSE, 0), 24);
        due("the setting stays", x.count(CLOSE), 1);
    }

    private static void ifSetErrors() {
        GlassSpill x = new GlassSpill();
        sentence(14, "BAD_VALUE if there is no such setting, or value is out of its range");
        outOfRange("ifSet of a setting", 0, 5, setting -> x.ifSet(setting, 1), BAD_VALUE);
        int[] greatest = {45, 45, 16, 16, 16, 1};
        for (int i = 0; i < greatest.length; i++) {
            int setting = i;
            outOfRange("ifSet of " + setting, 0, greatest[setting], value -> x.ifSet(setting, value), BAD_VALUE);
        }
        int[][] good = {{0, 0}, {0, 17}, {1, 7}, {1, 45}, {2, 0}, {2, 16}, {3, 0}, {3, 16}, {4, 0}, {4, 16}, {5, 0}, {5, 1}};
        for (int[] one : good) {
            int others = x.ifSet(one[0], one[1]);
            due("ifSet of " + one[0] + " to " + one[1] + " is no error", others >= 0 && others <= 48 ? 0 : 1, 0);
        }
        sentence(14, "NOT_POSSIBLE if NEAR would not be below FAR.");
        due("NEAR just below FAR", x.ifSet(NEAR, 17), 0);
        due("NEAR at FAR", x.ifSet(NEAR, 18), NOT_POSSIBLE);
        due("NEAR at its greatest", x.ifSet(NEAR, 45), NOT_POSSIBLE);
        due("FAR just above NEAR", x.ifSet(FAR, 7), 0);
        due("FAR at NEAR", x.ifSet(FAR, 6), NOT_POSSIBLE);
        due("FAR at its least", x.ifSet(FAR, 0), NOT_POSSIBLE);
        x.set(FAR, 45);
        due("NEAR at the greatest FAR", x.ifSet(NEAR, 45), NOT_POSSIBLE);
        due("NEAR just below it", x.ifSet(NEAR, 44), 0);
    }

    // ---- promise 15

    private static void bestShare() {
        sentence(15, "Finds the value of BODY, HAIR or GLASS with which the least spill is left in the composed picture");
        GlassSpill x = all(0x060);
        x.set(NEAR, 0);
        x.set(FAR, 9);
        due("all of it", x.bestShare(BODY, 0), 16);
        due("none is left", x.bestShare(BODY, 1), 0);
        due("without hair", x.bestShare(HAIR, 1), 0);
        x.set(BODY, 0);
        due("without hair, no share of body", x.bestShare(HAIR, 0), 0);
        due("what is left", x.bestShare(HAIR, 1), 48 * 6);
        x.mark(0, true);
        x.set(GLASS, 0);
        due("glass", x.bestShare(GLASS, 0), 16);
        due("what is left by the others", x.bestShare(GLASS, 1), 47 * 6);
        due("what is left by glass", x.bestShare(BODY, 1), 6);
        sentence(15, "of several the least.");
        x = new GlassSpill();
        due("with no spill at all", x.bestShare(BODY, 0), 0);
        due("for hair", x.bestShare(HAIR, 0), 0);
        due("for glass", x.bestShare(GLASS, 0), 0);
        x.screen(BLUE);
        x.fill(true, 0, 47, 0x060);
        x.paint(true, 5, 0x009);
        x.mark(5, true);
        // its distance is 6, so it is clear: whatever is taken out, the back is seen
        due("for glass that is clear", x.bestShare(GLASS, 0), 0);
        x.set(NEAR, 0);
        x.set(FAR, 1);
        due("for glass that is body", x.bestShare(GLASS, 0), 16);
        x.set(NEAR, 0);
        x.set(FAR, 45);
        // opaque by 2, so a part of 8 would be seen as 1, and one of 7 as 0: 2 of 9 have to go, by 4 sixteenths
        due("opaque by 2", x.pixel(5, OPAQUE), 2);
        due("for glass that is nearly clear", x.bestShare(GLASS, 0), 4);
        due("what is left of it", x.bestShare(GLASS, 1), 0);
        x = all(GREEN);
        x.fill(false, 0, 47, GREEN);
        x.screen(0x3f0);
        x.set(NEAR, 0);
        x.set(FAR, 45);
        x.mark(47, true);
        // opaque by 1: (15 + 15 * 15) / 16 is 15, and with 1 or more taken out 14; 2 sixteenths of 15 are the least for that
        due("opaque by 1", x.pixel(0, OPAQUE), 1);
        due("for the least share that takes some", x.bestShare(BODY, 0), 2);
        due("what is left", x.bestShare(BODY, 1), 48 * 14);
        x.set(BODY, 0);
        due("for the only one that is glass", x.bestShare(GLASS, 0), 2);
        due("what is left", x.bestShare(GLASS, 1), 47 * 15 + 14);
    }

    private static void bestShareOfTheBack() {
        sentence(15, "the spill of all its pixels, by the main part of the screen, together");
        GlassSpill x = all(GREEN);
        x.fill(false, 0, 47, 0x292);
        due("what is left of clear ones is that of the back", x.bestShare(BODY, 1), 48 * 7);
        x.fill(false, 0, 47, 0x229);
        due("by another part", x.bestShare(BODY, 1), 0);
        x.paint(true, 47, 0x0ff);
        x.paint(true, 46, 0x2f2);
        due("with one pixel", x.bestShare(HAIR, 1), 0);
        GlassSpill y = x;
        sentence(15, "`setting`: BODY, HAIR or GLASS");
        due("BODY", x.bestShare(BODY, 0), 0);
        due("HAIR", x.bestShare(HAIR, 0), 0);
        due("GLASS", x.bestShare(GLASS, 0), 0);
        sentence(15, "`what`: 0 the value, 1 the spill that is left");
        x = all(0x060);
        x.set(NEAR, 0);
        x.set(FAR, 1);
        x.fill(true, 0, 7, 0x0f0);
        x.fill(false, 0, 7, 0x5c5);
        due("the value", x.bestShare(BODY, 0), 16);
        due("the spill", x.bestShare(BODY, 1), 8 * 7);
        sentence(15, "Returns the number");
        due("the greatest value", x.bestShare(BODY, 0), 16);
        due("the greatest spill", backOfSpill().bestShare(BODY, 1), 48 * 15);
        sentence(15, "BAD_VALUE if setting is none of these");
        outOfRange("bestShare of a setting", 2, 4, setting -> y.bestShare(setting, 0), BAD_VALUE);
        outOfRange("the spill by a setting", 2, 4, setting -> y.bestShare(setting, 1), BAD_VALUE);
        sentence(15, "or what is neither 0 nor 1.");
        for (int i = BODY; i <= GLASS; i++) {
            int setting = i;
            outOfRange("bestShare of what", 0, 1, what -> y.bestShare(setting, what), BAD_VALUE);
        }
    }

    private static GlassSpill backOfSpill() {
        GlassSpill x = all(GREEN);
        x.fill(false, 0, 47, GREEN);
        return x;
    }
}
