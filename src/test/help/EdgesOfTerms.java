/** Boundary cases of the document's section "Terms"; each is tested by a promise in which it shows. */
final class EdgesOfTerms extends Edges {
    private EdgesOfTerms() {
    }

    static void run() {
        errorCodes();
        errorsOfChangesChangeNothing();
        otherErrorsChangeNothing();
        theFirstErrorIsReturned();
        noneIsNoError();
        numberedFromNought();
        roundedDown();
        sizeOfPictures();
        colours();
        beside();
        distance();
        rawOpaque();
        holes();
        marksAtFirst();
        kinds();
        mainPart();
        spill();
        shares();
        composed();
        grammar();
        faults();
    }

    // ---- conventions

    private static void errorCodes() {
        GlassSpill x = new GlassSpill();
        sentence(4, "A method that fails returns one of the error codes NO_SUCH (-1)");
        due("NO_SUCH", GlassSpill.NO_SUCH, -1);
        due("paint of no pixel", x.paint(true, 48, 0), -1);
        sentence(2, "BAD_VALUE (-2)");
        due("BAD_VALUE", GlassSpill.BAD_VALUE, -2);
        due("set without a setting", x.set(6, 0), -2);
        sentence(6, "BAD_TEXT (-3)");
        due("BAD_TEXT", GlassSpill.BAD_TEXT, -3);
        due("read of an empty pad", x.read(true, 0), -3);
        sentence(16, "TOO_MANY (-4)");
        due("TOO_MANY", GlassSpill.TOO_MANY, -4);
        write(x, "........................................" + "........");
        due("put on a full pad", x.put('.'), -4);
        sentence(19, "NOT_POSSIBLE (-5)");
        due("NOT_POSSIBLE", GlassSpill.NOT_POSSIBLE, -5);
        due("undo of nothing", x.undo(), -5);
        sentence(18, "NONE (-6)");
        due("NONE", GlassSpill.NONE, -6);
        write(x, ".");
        due("fault of a good text", x.fault(), -6);
    }

    private static void errorsOfChangesChangeNothing() {
        String words = "A call that returns an error changes nothing.";
        sentence(2, words);
        leavesAll("set without a setting", x -> x.set(6, 0), BAD_VALUE);
        leavesAll("set out of range", x -> x.set(BODY, 17), BAD_VALUE);
        leavesAll("set of NEAR to FAR", x -> x.set(NEAR, 18), NOT_POSSIBLE);
        leavesAll("set of FAR to NEAR", x -> x.set(FAR, 6), NOT_POSSIBLE);
        sentence(3, words);
        leavesAll("screen out of range", x -> x.screen(4096), BAD_VALUE);
        sentence(4, words);
        leavesAll("paint of no pixel", x -> x.paint(true, 48, 7), NO_SUCH);
        leavesAll("paint of the front without a colour", x -> x.paint(true, 3, 4096), BAD_VALUE);
        leavesAll("paint of the back without a colour", x -> x.paint(false, 3, -1), BAD_VALUE);
        sentence(5, words);
        leavesAll("fill from no pixel", x -> x.fill(true, -1, 47, 7), NO_SUCH);
        leavesAll("fill to no pixel", x -> x.fill(true, 0, 48, 7), NO_SUCH);
        leavesAll("fill without a colour", x -> x.fill(false, 0, 47, 4096), BAD_VALUE);
        sentence(6, words);
        leavesAll("read of no row", x -> x.read(true, 6), NO_SUCH);
        leavesAll("read of no row from a good text", EdgesOfTerms::busyWithText, x -> x.read(true, -1), NO_SUCH);
        leavesAll("read of a short text", x -> x.read(true, 0), BAD_TEXT);
        leavesAll("read of nine pixels", EdgesOfTerms::busyWithNine, x -> x.read(false, 5), BAD_TEXT);
        sentence(7, words);
        leavesAll("mark of no pixel", x -> x.mark(48, true), NO_SUCH);
        leavesAll("mark of a marked one", x -> x.mark(9, true), NOT_POSSIBLE);
        leavesAll("no mark where there is none", x -> x.mark(10, false), NOT_POSSIBLE);
        sentence(21, words);
        leavesAll("restore without a slot", x -> x.restore(2), BAD_VALUE);
        leavesAll("restore of nothing", x -> x.restore(1), NOT_POSSIBLE);
    }

    private static void otherErrorsChangeNothing() {
        String words = "A call that returns an error changes nothing.";
        sentence(9, words);
        leavesAll("pixel that is none", x -> x.pixel(48, 9), NO_SUCH);
        leavesAll("pixel of nothing", x -> x.pixel(20, 10), BAD_VALUE);
        sentence(10, words);
        leavesAll("count of nothing", x -> x.count(21), BAD_VALUE);
        sentence(11, words);
        leavesAll("row that is none", x -> x.row(6, 0), NO_SUCH);
        leavesAll("row of no kind", x -> x.row(0, 5), BAD_VALUE);
        sentence(12, words);
        leavesAll("bestScreen of nothing", x -> x.bestScreen(2), BAD_VALUE);
        sentence(13, words);
        leavesAll("leastNear of no pixel", x -> x.leastNear(48), NO_SUCH);
        sentence(14, words);
        leavesAll("ifSet out of range", x -> x.ifSet(GLASS, 17), BAD_VALUE);
        leavesAll("ifSet of NEAR to FAR", x -> x.ifSet(NEAR, 18), NOT_POSSIBLE);
        sentence(15, words);
        leavesAll("bestShare of FAR", x -> x.bestShare(FAR, 0), BAD_VALUE);
        leavesAll("bestShare of nothing", x -> x.bestShare(HAIR, 2), BAD_VALUE);
        sentence(16, words);
        leavesAll("put of no character", x -> x.put(0), BAD_VALUE);
        leavesAll("put of a bad one behind good ones", x -> x.put(packed("abc ")), BAD_VALUE);
        leavesAll("put of a bad one ahead of good ones", x -> x.put(packed(" abc")), BAD_VALUE);
        leavesAll("put of more than there is room for", EdgesOfTerms::busyWithLongText, x -> x.put(packed("..")), TOO_MANY);
        sentence(19, words);
        leavesAll("undo of nothing", GlassSpill::new, GlassSpill::undo, NOT_POSSIBLE);
        leavesAll("undo of nothing beside a slot", EdgesOfTerms::withoutHistory, GlassSpill::undo, NOT_POSSIBLE);
        sentence(20, words);
        leavesAll("save without a slot", x -> x.save(2), BAD_VALUE);
        leavesAll("save below the slots", x -> x.save(-1), BAD_VALUE);
    }

    private static GlassSpill busyWithText() {
        GlassSpill x = busy();
        write(x, "abc.123");
        return x;
    }

    private static GlassSpill busyWithNine() {
        GlassSpill x = busy();
        write(x, "abc........");
        return x;
    }

    private static GlassSpill busyWithLongText() {
        GlassSpill x = busy();
        write(x, "12345678123456781234567812345678123456781234567");
        return x;
    }

    private static GlassSpill withoutHistory() {
        GlassSpill x = new GlassSpill();
        x.mark(5, true);
        x.save(1);
        x.undo();
        return x;
    }

    private static void theFirstErrorIsReturned() {
        String words = "it names its errors in the order in which they are checked, and the first one that applies is returned.";
        GlassSpill x = new GlassSpill();
        sentence(2, words);
        due("set of NEAR beyond its range and FAR", x.set(NEAR, 46), BAD_VALUE);
        due("set of FAR below its range and NEAR", x.set(FAR, -1), BAD_VALUE);
        sentence(4, words);
        due("paint of no pixel without a colour", x.paint(true, 48, 4096), NO_SUCH);
        due("paint below the pixels and the colours", x.paint(false, -1, -1), NO_SUCH);
        sentence(5, words);
        due("fill from no pixel without a colour", x.fill(true, 48, 0, 4096), NO_SUCH);
        due("fill to no pixel without a colour", x.fill(true, 0, 48, 4096), NO_SUCH);
        sentence(6, words);
        due("read of no row from an empty pad", x.read(true, 6), NO_SUCH);
        sentence(7, words);
        due("no mark on no pixel, which has none", x.mark(48, false), NO_SUCH);
        sentence(9, words);
        due("nothing of no pixel", x.pixel(48, 10), NO_SUCH);
        due("below both", x.pixel(-1, -1), NO_SUCH);
        sentence(11, words);
        due("no kind in no row", x.row(6, 5), NO_SUCH);
        due("below both", x.row(-1, -1), NO_SUCH);
        sentence(14, words);
        due("ifSet of NEAR beyond its range and FAR", x.ifSet(NEAR, 46), BAD_VALUE);
        due("ifSet of FAR below its range and NEAR", x.ifSet(FAR, -1), BAD_VALUE);
        sentence(16, words);
        write(x, "................................................");
        due("put of a bad character on a full pad", x.put(' '), BAD_VALUE);
        due("put of none on a full pad", x.put(0), BAD_VALUE);
        sentence(21, words);
        due("restore of no slot, in which nothing is", x.restore(2), BAD_VALUE);
    }

    private static void noneIsNoError() {
        sentence(13, "is not an error; it is returned only if no error applies.");
        GlassSpill x = new GlassSpill();
        x.screen(WHITE);
        due("leastNear of a pixel that is far", x.leastNear(47), NONE);
        due("leastNear of no pixel", x.leastNear(48), NO_SUCH);
        due("leastNear below the pixels", x.leastNear(-1), NO_SUCH);
    }

    private static void numberedFromNought() {
        String words = "Everything is numbered from 0.";
        GlassSpill x = all(RED);
        sentence(2, words);
        due("the first setting", x.set(0, 5), 6);
        due("the last setting", x.set(5, 0), 0);
        sentence(4, words);
        due("the first pixel", x.paint(true, 0, GREEN), RED);
        due("the last pixel", x.paint(true, 47, GREEN), RED);
        sentence(11, words);
        due("the first row, the first kind, the first column", x.row(0, 0), 0b00000001);
        due("the last row, the first kind, the last column", x.row(5, 0), 0b10000000);
        due("the fourth kind", x.row(0, 3), 0b11111110);
        sentence(20, words);
        due("the first slot", x.save(0), 0);
        due("the last slot", x.save(1), 0);
        sentence(18, words);
        write(x, "g");
        due("a fault at the first character", x.fault(), 0);
    }

    private static void roundedDown() {
        sentence(9, "Divisions are rounded down.");
        GlassSpill x = all(GREEN);
        x.paint(true, 20, 0x200);
        due("16 * 11 / 12", x.pixel(20, RAW), 14);
        x.paint(true, 20, 0x0f5);
        x.mark(20, true);
        x.set(GLASS, 3);
        due("10 * 3 / 16", x.pixel(20, TAKEN), 1);
        x.set(GLASS, 0);
        x.paint(true, 20, 0x060);
        x.fill(false, 0, 47, 0x111);
        due("12 / 16, (24 + 12) / 16, 12 / 16", x.pixel(20, COMPOSED), 0x020);
    }

    // ---- pictures

    private static void sizeOfPictures() {
        sentence(4, "A picture has 8 columns and 6 rows of pixels");
        GlassSpill x = new GlassSpill();
        due("the last one", x.paint(true, 47, 0), 0);
        due("one more", x.paint(true, 48, 0), NO_SUCH);
        due("a fill of all", x.fill(false, 0, 47, 1), 48);
        due("a column", x.fill(true, 0, 40, 0), 6);
        due("a row", x.fill(true, 0, 7, 0), 8);
        sentence(11, "the pixel in the column x (0 to 7) and the row y (0 to 5) has the number 8 * y + x.");
        x = all(GREEN);
        for (int row = 0; row < 6; row++) {
            for (int column = 0; column < 8; column++) {
                x.paint(true, 8 * row + column, RED);
                due("the pixel " + (8 * row + column), x.row(row, IS_BODY), 1 << column);
                x.paint(true, 8 * row + column, GREEN);
            }
        }
        sentence(1, "There are two pictures: the front (at first all parts 0) and the back (at first all parts 0)");
        x = new GlassSpill();
        for (int pixel = 0; pixel < 48; pixel++) {
            due("the front at " + pixel, x.pixel(pixel, COLOUR_OF_FRONT), 0);
            due("the back at " + pixel, x.pixel(pixel, COLOUR_OF_BACK), 0);
        }
        sentence(1, "the colour of the screen, with three parts, too (at first 0, 15, 0).");
        due("the screen", x.count(SCREEN), 0x0f0);
        due("how far black is from it", x.pixel(0, DISTANCE), 15);
    }

    private static void colours() {
        sentence(9, "A pixel has a red, a green and a blue part, each 0 to 15.");
        GlassSpill x = new GlassSpill();
        x.screen(0);
        due("no parts", x.pixel(0, DISTANCE), 0);
        due("the greatest colour", x.paint(true, 0, 4095), 0);
        due("the greatest parts", x.pixel(0, DISTANCE), 45);
        int[] greatest = {0xf00, 0x0f0, 0x00f};
        for (int colour : greatest) {
            x.paint(true, 0, colour);
            due("a greatest part, " + colour, x.pixel(0, DISTANCE), 15);
        }
        sentence(9, "A colour is told by 256 times its red part, 16 times its green part and its blue part, together.");
        int[] colours = {256 * 5 + 16 * 2 + 1, 16 * 5 + 256 * 2 + 1, 5 + 256 * 2 + 16};
        int[] screens = {256, 16, 1};
        for (int i = 0; i < colours.length; i++) {
            x.paint(true, 47, colours[i]);
            due("the colour", x.pixel(47, COLOUR_OF_FRONT), colours[i]);
            x.screen(screens[i]);
            due("its spill, by the part that is 5", x.pixel(47, SPILL), 3);
        }
        x.screen(0);
        for (int colour = 0; colour < 16; colour++) {
            x.paint(true, 47, 256 * colour);
            due("the red part " + colour, x.pixel(47, DISTANCE), colour);
            x.paint(true, 47, 16 * colour);
            due("the green part " + colour, x.pixel(47, DISTANCE), colour);
            x.paint(true, 47, colour);
            due("the blue part " + colour, x.pixel(47, DISTANCE), colour);
        }
    }

    /** A pixel that is opaque by 4 among clear ones is hair if one body is beside it, and soft if there is none. */
    private static void beside() {
        sentence(9, "Beside a pixel are those above, below, to the left and to the right of it");
        for (int pixel = 0; pixel < 48; pixel++) {
            if (!isAtEdge(pixel)) {
                dueBeside(pixel);
            }
        }
        sentence(9, "as far as there are such.");
        for (int pixel = 0; pixel < 48; pixel++) {
            if (isAtEdge(pixel)) {
                dueBeside(pixel);
            }
        }
    }

    private static boolean isAtEdge(int pixel) {
        return pixel % 8 == 0 || pixel % 8 == 7 || pixel / 8 == 0 || pixel / 8 == 5;
    }

    private static void dueBeside(int pixel) {
        for (int body = 0; body < 48; body++) {
            int apart = Math.abs(body % 8 - pixel % 8) + Math.abs(body / 8 - pixel / 8);
            if (apart > 0) {
                due("the kind of " + pixel + " with a body at " + body, kindWithBody(pixel, body), apart == 1 ? IS_HAIR : IS_SOFT);
            }
        }
    }

    private static int kindWithBody(int pixel, int body) {
        GlassSpill x = all(GREEN);
        x.paint(true, pixel, 0x060);
        x.paint(true, body, RED);
        return x.pixel(pixel, KIND);
    }

    // ---- how opaque a pixel is

    private static void distance() {
        sentence(9, "The distance of a pixel is how far its parts, in the front, are from those of the screen, all three together.");
        GlassSpill x = new GlassSpill();
        x.screen(0x852);
        int[][] distances = {
            {0x852, 0}, {0x752, 1}, {0x952, 1}, {0x842, 1}, {0x862, 1}, {0x851, 1}, {0x853, 1}, {0x258, 12}, {0x000, 15},
            {0xfff, 30}, {0xf0f, 25}, {0x0f0, 20},
        };
        for (int[] one : distances) {
            x.paint(true, 5, one[0]);
            due("the distance of " + one[0], x.pixel(5, DISTANCE), one[1]);
        }
        x.screen(WHITE);
        x.paint(true, 5, BLACK);
        due("the greatest distance", x.pixel(5, DISTANCE), 45);
        x.paint(false, 5, WHITE);
        due("the distance with another back", x.pixel(5, DISTANCE), 45);
    }

    /** A front of which the pixel n has the distance n, as far as 45. */
    private static GlassSpill allDistances(int near, int far) {
        GlassSpill x = new GlassSpill();
        x.screen(0);
        for (int distance = 0; distance <= 45; distance++) {
            int red = Math.min(15, distance);
            int green = Math.min(15, distance - red);
            x.paint(true, distance, 256 * red + 16 * green + distance - red - green);
        }
        x.set(FAR, 45);
        x.set(NEAR, near);
        x.set(FAR, far);
        return x;
    }

    private static void dueRaw(int near, int far, int distance, int want) {
        GlassSpill x = allDistances(near, far);
        String call = "raw opaque with " + near + " and " + far + " at " + distance;
        due("distance ahead of " + call, x.pixel(distance, DISTANCE), distance);
        due(call, x.pixel(distance, RAW), want);
        due(call + ", without holes", x.pixel(distance, OPAQUE), want);
    }

    private static void rawOpaque() {
        sentence(9, "It is raw opaque by 0, if its distance is NEAR or less");
        int[][] nears = {{6, 18, 6}, {6, 18, 5}, {6, 18, 0}, {0, 18, 0}, {44, 45, 44}, {44, 45, 0}, {0, 1, 0}, {6, 7, 6}};
        for (int[] one : nears) {
            dueRaw(one[0], one[1], one[2], 0);
        }
        sentence(9, "by 16, if it is FAR or more");
        int[][] fars = {{6, 18, 18}, {6, 18, 19}, {6, 18, 45}, {0, 45, 45}, {44, 45, 45}, {0, 1, 1}, {0, 1, 45}, {6, 7, 7}};
        for (int[] one : fars) {
            dueRaw(one[0], one[1], one[2], 16);
        }
        sentence(9, "otherwise by 16 * (its distance less NEAR) / (FAR less NEAR).");
        int[][] between = {
            {6, 18, 7, 1}, {6, 18, 8, 2}, {6, 18, 9, 4}, {6, 18, 12, 8}, {6, 18, 16, 13}, {6, 18, 17, 14}, {0, 45, 1, 0},
            {0, 45, 2, 0}, {0, 45, 3, 1}, {0, 45, 44, 15}, {0, 16, 15, 15}, {0, 16, 1, 1}, {6, 8, 7, 8}, {28, 45, 29, 0},
            {28, 45, 30, 1}, {28, 45, 44, 15}, {43, 45, 44, 8},
        };
        for (int[] one : between) {
            dueRaw(one[0], one[1], one[2], one[3]);
        }
    }

    // ---- holes

    private static GlassSpill closed(String... rows) {
        GlassSpill x = picture(rows);
        x.set(CLOSE, 1);
        return x;
    }

    private static void holes() {
        sentence(9, "If CLOSE is 1, holes are closed");
        GlassSpill x = picture("", ".###", ".#.#", ".###");
        due("opaque without closing", x.pixel(18, OPAQUE), 0);
        due("its kind", x.pixel(18, KIND), IS_CLEAR);
        x.set(CLOSE, 1);
        due("opaque with closing", x.pixel(18, OPAQUE), 16);
        due("its kind", x.pixel(18, KIND), IS_BODY);
        x.set(CLOSE, 0);
        due("opaque without closing again", x.pixel(18, OPAQUE), 0);
        sentence(9, "a pixel that is raw opaque by less than 16");
        x = closed("########", "#.-+####", "########");
        due("the pixels of the hole", x.count(HOLES), 3);
        for (int pixel = 9; pixel <= 12; pixel++) {
            due("opaque at " + pixel, x.pixel(pixel, OPAQUE), 16);
        }
        due("raw opaque by 0", x.pixel(9, RAW), 0);
        due("raw opaque by 4", x.pixel(10, RAW), 4);
        due("raw opaque by 14", x.pixel(11, RAW), 14);
        holeOfNearlyOpaque();
        edgeOfThePicture();
        ways();
        sentence(9, "All others are opaque as raw.");
        x = closed("-.+#....", "-#-.");
        int[] opaque = {4, 0, 14, 16, 0, 0, 0, 0, 4, 16, 4, 0};
        for (int pixel = 0; pixel < opaque.length; pixel++) {
            due("opaque at " + pixel, x.pixel(pixel, OPAQUE), opaque[pixel]);
        }
    }

    private static void holeOfNearlyOpaque() {
        GlassSpill x = all(RED);
        x.set(FAR, 16);
        x.set(NEAR, 0);
        x.set(CLOSE, 1);
        x.paint(true, 20, BLACK);
        due("raw opaque by 15", x.pixel(20, RAW), 15);
        due("is a hole", x.pixel(20, OPAQUE), 16);
        due("of one pixel", x.count(HOLES), 1);
        x.paint(true, 20, 0x100);
        due("raw opaque by 16", x.pixel(20, RAW), 16);
        due("is none", x.count(HOLES), 0);
        x.fill(true, 4, 20, BLACK);
        due("with a way over such pixels", x.count(HOLES), 0);
        due("opaque at its end", x.pixel(20, OPAQUE), 15);
        x.paint(true, 12, 0x100);
        due("with the way closed", x.count(HOLES), 1);
    }

    private static void edgeOfThePicture() {
        sentence(9, "the edge of the picture (a pixel of the first or last column or row)");
        GlassSpill x = all(RED);
        x.set(CLOSE, 1);
        for (int pixel = 0; pixel < 48; pixel++) {
            x.paint(true, pixel, GREEN);
            due("holes with a clear pixel at " + pixel, x.count(HOLES), isAtEdge(pixel) ? 0 : 1);
            due("opaque at " + pixel, x.pixel(pixel, OPAQUE), isAtEdge(pixel) ? 0 : 16);
            x.paint(true, pixel, RED);
        }
        int[][] straight = {{18, 2}, {18, 16}, {29, 31}, {29, 45}};
        for (int[] way : straight) {
            x.fill(true, way[0], way[1], GREEN);
            due("holes with a way from " + way[0] + " to " + way[1], x.count(HOLES), 0);
            x.paint(true, way[1], RED);
            int length = Math.max(Math.abs(way[1] - way[0]) % 8, Math.abs(way[1] - way[0]) / 8);
            due("holes with its end closed", x.count(HOLES), length);
            x.fill(true, 0, 47, RED);
        }
        sentence(9, "itself among them");
        x.paint(true, 24, 0x060);
        due("opaque at the edge, among bodies", x.pixel(24, OPAQUE), 4);
        x.paint(true, 25, 0x060);
        due("opaque beside it", x.pixel(25, OPAQUE), 4);
        x.paint(true, 24, RED);
        due("opaque with a body at the edge", x.pixel(25, OPAQUE), 16);
    }

    private static void ways() {
        sentence(9, "from which one cannot come to the edge of the picture");
        GlassSpill x = closed("#.######", "#.#....#", "#.#.##.#", "#.#.##.#", "#...##.#", "########");
        due("holes with a way of many turns", x.count(HOLES), 0);
        due("opaque at its end", x.pixel(38, OPAQUE), 0);
        x.paint(true, 1, RED);
        due("holes with no way", x.count(HOLES), 5 + 3 + 3 + 4);
        due("opaque at its end", x.pixel(38, OPAQUE), 16);
        sentence(9, "over such pixels");
        x = closed("###+####", "###-####", "###.####", "########", "########", "########");
        due("holes with a way over pixels opaque by less than 16", x.count(HOLES), 0);
        due("opaque at its end", x.pixel(19, OPAQUE), 0);
        x.paint(true, 11, RED);
        due("holes with a body in the way", x.count(HOLES), 1);
        x.paint(true, 11, 0x200);
        x.mark(11, true);
        due("holes with a mark in the way", x.count(HOLES), 0);
        x.mark(19, true);
        x.paint(true, 11, RED);
        due("opaque at a mark in a hole", x.pixel(19, OPAQUE), 16);
        due("its kind", x.pixel(19, KIND), IS_GLASS);
        sentence(9, "from one to another beside it");
        x = closed("#.######", "#.######", "##.#####", "###.####", "########", "########");
        due("holes that touch at corners", x.count(HOLES), 2);
    }

    // ---- marks, kinds

    private static void marksAtFirst() {
        sentence(7, "Pixels can be marked as glass (none at first).");
        GlassSpill x = new GlassSpill();
        due("marked at first", x.count(MARKED), 0);
        for (int pixel = 0; pixel < 48; pixel++) {
            due("a mark on " + pixel, x.mark(pixel, true), pixel + 1);
        }
        due("all are glass", x.count(GLASS_PIXELS), 48);
    }

    private static void kinds() {
        sentence(9, "Each pixel has one of these kinds, the first that applies");
        GlassSpill x = picture("", "", ".-#", ".--");
        int[] pixels = {16, 17, 18, 25, 24};
        int[] without = {IS_CLEAR, IS_HAIR, IS_BODY, IS_SOFT, IS_CLEAR};
        for (int i = 0; i < pixels.length; i++) {
            due("the kind of " + pixels[i], x.pixel(pixels[i], KIND), without[i]);
            x.mark(pixels[i], true);
            due("the kind of " + pixels[i] + " as glass", x.pixel(pixels[i], KIND), IS_GLASS);
            x.mark(pixels[i], false);
        }
        sentence(9, "4 glass: it is marked");
        x.mark(30, true);
        due("the kind of a marked one", x.pixel(30, KIND), IS_GLASS);
        due("the kind of one beside it", x.pixel(31, KIND), IS_CLEAR);
        x.mark(30, false);
        due("the kind when it is no longer", x.pixel(30, KIND), IS_CLEAR);
        sentence(9, "0 clear: opaque by 0");
        x = picture("", "", ".###.", "..#.+", "..-.#");
        due("the kind between bodies", x.pixel(27, KIND), IS_CLEAR);
        x = allDistances(0, 45);
        due("opaque by 0 above NEAR", x.pixel(2, OPAQUE), 0);
        due("its kind", x.pixel(2, KIND), IS_CLEAR);
        due("the kind of one opaque by 1", x.pixel(3, KIND), IS_SOFT);
        sentence(9, "3 body: opaque by 16");
        x = picture("", "", "..##", "..-.");
        due("the kind beside a body and clear ones", x.pixel(18, KIND), IS_BODY);
        x = allDistances(0, 45);
        due("the kind at FAR", x.pixel(45, KIND), IS_BODY);
        due("opaque by 15", x.pixel(44, OPAQUE), 15);
        due("its kind", x.pixel(44, KIND), IS_SOFT);
        hairAndSoft();
    }

    private static void hairAndSoft() {
        sentence(9, "2 hair: one beside it is opaque by 16, and one beside it by 0 (marked or not)");
        due("the kind between body and clear", picture("#-.").pixel(1, KIND), IS_HAIR);
        due("the kind between bodies", picture("#-#", "##").pixel(1, KIND), IS_SOFT);
        due("the kind between clear ones", picture(".-.").pixel(1, KIND), IS_SOFT);
        due("the kind between one opaque by 14 and clear ones", picture("+-.").pixel(1, KIND), IS_SOFT);
        due("the kind between body and one opaque by 4", picture("#--", "--").pixel(1, KIND), IS_SOFT);
        GlassSpill x = picture("#-#", "#.#");
        due("the kind with a single clear one", x.pixel(1, KIND), IS_HAIR);
        x.mark(9, true);
        due("the kind with the clear one marked", x.pixel(1, KIND), IS_HAIR);
        x.mark(0, true);
        x.mark(2, true);
        due("the kind with the bodies marked", x.pixel(1, KIND), IS_HAIR);
        due("the marked ones are glass", x.row(0, IS_GLASS), 0b101);
        hairByRoundedOpacity();
        sentence(9, "1 soft.");
        x = picture("-+-", "-#-", "-+-");
        due("the kind of all others", x.pixel(0, KIND), IS_SOFT);
        due("the kind beside a body alone", picture("+-#", "-#").pixel(1, KIND), IS_SOFT);
    }

    /** With NEAR 0 and FAR 45 the distance 2 is opaque by 0, 3 by 1, 44 by 15, and 45 by 16. */
    private static void hairByRoundedOpacity() {
        GlassSpill x = allDistances(0, 45);
        int[] colours = new int[46];
        for (int distance = 0; distance < colours.length; distance++) {
            colours[distance] = x.pixel(distance, COLOUR_OF_FRONT);
        }
        x.fill(true, 0, 47, colours[30]);
        x.paint(true, 19, colours[45]);
        x.paint(true, 21, colours[2]);
        due("the kind beside 16 and 0", x.pixel(20, KIND), IS_HAIR);
        x.paint(true, 21, colours[3]);
        due("the kind beside 16 and 1", x.pixel(20, KIND), IS_SOFT);
        x.paint(true, 21, colours[0]);
        x.paint(true, 19, colours[44]);
        due("the kind beside 15 and 0", x.pixel(20, KIND), IS_SOFT);
    }

    // ---- spill, composing

    private static void mainPart() {
        sentence(9, "The main part of the screen is its greatest part, of several the first one of red, green, blue.");
        int[] screens = {0x100, 0x010, 0x001, 0x000, 0x777, 0xff0, 0xf0f, 0x0ff, 0xfef, 0xffe, 0xeff, 0xfee, 0xefe, 0xeef};
        int[] mains = {0, 1, 2, 0, 0, 0, 0, 1, 0, 0, 1, 0, 1, 2};
        int[] colours = {0x834, 0x384, 0x348};
        for (int i = 0; i < screens.length; i++) {
            GlassSpill x = new GlassSpill();
            x.screen(screens[i]);
            for (int part = 0; part < 3; part++) {
                x.paint(true, part, colours[part]);
                due("spill by part " + part + " with the screen " + screens[i], x.pixel(part, SPILL), mains[i] == part ? 4 : 0);
            }
        }
    }

    private static void spill() {
        sentence(9, "The spill of a pixel is how much its part of that name is above the greater one of its two other parts");
        int[][] spills = {{0x2f5, 10}, {0x5f2, 10}, {0x0f0, 15}, {0x575, 2}, {0x576, 1}, {0x675, 1}, {0x010, 1}};
        for (int[] one : spills) {
            GlassSpill x = new GlassSpill();
            x.paint(true, 46, one[0]);
            due("spill of " + one[0], x.pixel(46, SPILL), one[1]);
        }
        sentence(9, "0 at least.");
        int[] colours = {0x777, 0x770, 0x077, 0x870, 0x078, 0xf0f, 0x000, 0xfff};
        for (int colour : colours) {
            GlassSpill x = new GlassSpill();
            x.paint(true, 46, colour);
            due("spill of " + colour, x.pixel(46, SPILL), 0);
            due("spill of all", x.count(ALL_SPILL), 0);
            due("taken out of it", x.pixel(46, TAKEN), 0);
            due("the front without it", x.pixel(46, CLEANED), colour);
        }
    }

    /** Pixels of each kind: 1 hair, 2 body, 5 soft, 20 glass, the others clear; all but the body with a spill of 11. */
    private static GlassSpill allKinds() {
        GlassSpill x = all(0x4f4);
        x.screen(0x4f4);
        // the distance of 0x0b0 is 12, so that FAR 12 makes body of it
        x.paint(true, 1, 0x0b0);
        x.paint(true, 2, RED);
        x.paint(true, 5, 0x0b0);
        x.paint(true, 20, 0x0b0);
        x.mark(20, true);
        return x;
    }

    private static void shares() {
        sentence(9, "It is taken out by a share: the part becomes less by spill * share / 16");
        GlassSpill x = allKinds();
        int[][] taken = {{0, 0}, {1, 0}, {2, 1}, {4, 2}, {8, 5}, {15, 10}, {16, 11}};
        for (int[] one : taken) {
            x.set(GLASS, one[0]);
            due("taken out by " + one[0], x.pixel(20, TAKEN), one[1]);
            due("the colour without it", x.pixel(20, CLEANED), 16 * (11 - one[1]));
        }
        x.screen(0xf00);
        x.paint(true, 20, 0xe53);
        due("taken out of red", x.pixel(20, CLEANED), 0x553);
        x.screen(0x00f);
        x.paint(true, 20, 0x35e);
        due("taken out of blue", x.pixel(20, CLEANED), 0x355);
        shareOfEachKind();
    }

    private static void shareOfEachKind() {
        GlassSpill x = allKinds();
        x.set(BODY, 15);
        x.set(HAIR, 9);
        x.set(GLASS, 5);
        due("soft", x.pixel(5, KIND), IS_SOFT);
        due("hair", x.pixel(1, KIND), IS_HAIR);
        due("glass", x.pixel(20, KIND), IS_GLASS);
        due("clear", x.pixel(0, KIND), IS_CLEAR);
        due("body", x.pixel(2, KIND), IS_BODY);
        sentence(9, "where the share is BODY for body and soft pixels");
        due("taken out of soft", x.pixel(5, TAKEN), 10);
        x.set(FAR, 12);
        due("body at FAR", x.pixel(5, KIND), IS_BODY);
        due("taken out of body", x.pixel(5, TAKEN), 10);
        x.set(FAR, 18);
        sentence(9, "HAIR for hair");
        due("taken out of hair", x.pixel(1, TAKEN), 6);
        sentence(9, "GLASS for glass");
        due("taken out of glass", x.pixel(20, TAKEN), 3);
        int[] marked = {0, 1, 5};
        int[] taken = {3, 3, 3};
        for (int i = 0; i < marked.length; i++) {
            x.mark(marked[i], true);
            due("taken out of glass at " + marked[i], x.pixel(marked[i], TAKEN), taken[i]);
            x.mark(marked[i], false);
        }
        sentence(9, "and 0 for clear ones.");
        due("spill of a clear one", x.pixel(0, SPILL), 11);
        due("taken out of it", x.pixel(0, TAKEN), 0);
        due("its colour", x.pixel(0, CLEANED), 0x4f4);
    }

    private static void composed() {
        sentence(9, "The composed picture has, for each pixel and part, (the part of the front, with the spill taken out, times how"
            + " opaque it is, and the part of the back times 16 less that, together) / 16.");
        GlassSpill x = picture("#-.", "..-#");
        x.fill(false, 0, 47, 0x3c9);
        due("body is the front", x.pixel(0, COMPOSED), RED);
        due("clear is the back", x.pixel(2, COMPOSED), 0x3c9);
        // 6 * 8 / 16 is taken out of hair: (0 * 4 + 3 * 12) / 16, (3 * 4 + 12 * 12) / 16, (0 * 4 + 9 * 12) / 16
        due("hair is between", x.pixel(1, COMPOSED), 0x296);
        x.set(HAIR, 0);
        // (6 * 4 + 12 * 12) / 16
        due("hair with its spill", x.pixel(1, COMPOSED), 0x2a6);
        x.paint(true, 0, 0xaf9);
        due("body without spill", x.pixel(0, COMPOSED), 0xaa9);
        x.set(GLASS, 16);
        x.mark(2, true);
        due("clear glass is the back", x.pixel(2, COMPOSED), 0x3c9);
        x.set(FAR, 16);
        x.set(NEAR, 0);
        x.paint(true, 47, 0x7f8);
        x.set(BODY, 16);
        // opaque by 15: (7 * 15 + 3) / 16, (8 * 15 + 12) / 16, (8 * 15 + 9) / 16
        due("opaque by 15", x.pixel(47, OPAQUE), 15);
        due("nearly the front", x.pixel(47, COMPOSED), 0x688);
    }

    // ---- texts

    private static void dueFault(String text, int want) {
        GlassSpill x = new GlassSpill();
        write(x, text);
        due("length of the pad with " + text, x.count(PAD), text.length());
        due("fault of " + text, x.fault(), want);
        x.fill(true, 0, 47, 1);
        due("read of " + text, x.read(true, 3) == BAD_TEXT ? 1 : 0, want == NONE ? 0 : 1);
    }

    private static void grammar() {
        sentence(18, "pixels of one row: text = colour { colour }, at most 8");
        dueFault("abc", NONE);
        dueFault("abcdef", NONE);
        dueFault("000111222333444555666777", NONE);
        dueFault("........", NONE);
        dueFault("abc.def.", NONE);
        sentence(18, "colour = part part part, or \".\", which leaves the pixel as it is");
        dueFault(".", NONE);
        dueFault("a.", 1);
        dueFault("ab.", 2);
        dueFault("abc.", NONE);
        dueFault(".abc", NONE);
        dueFault("abcd.", 4);
        GlassSpill x = all(0x777);
        write(x, ".abc.");
        due("painted", x.read(true, 0), 1);
        int[] colours = {0x777, 0xabc, 0x777, 0x777};
        for (int pixel = 0; pixel < colours.length; pixel++) {
            due("the colour of " + pixel, x.pixel(pixel, COLOUR_OF_FRONT), colours[pixel]);
        }
        sentence(18, "a part is one of 0 to 9 and a to f (10 to 15).");
        for (int code = 33; code <= 126; code++) {
            char sign = (char) code;
            boolean isGood = "0123456789abcdef.".indexOf(sign) >= 0;
            dueFault("" + sign + sign + sign, isGood ? NONE : 0);
        }
        for (int part = 0; part < 16; part++) {
            x = all(0x777);
            write(x, "0" + "0123456789abcdef".charAt(part) + "0");
            due("painted", x.read(true, 0), 1);
            due("the part " + part, x.pixel(0, COLOUR_OF_FRONT), 16 * part);
        }
    }

    private static void faults() {
        sentence(18, "The fault is the index of the first character that cannot stand at its place when the text is read from left"
            + " to right");
        dueFault("g", 0);
        dueFault("0g", 1);
        dueFault("00g", 2);
        dueFault("000g", 3);
        dueFault(".g", 1);
        dueFault("abc.12,", 6);
        dueFault("g,!", 0);
        dueFault("a.b", 1);
        dueFault("abc,def!", 3);
        sentence(18, "(also of one of a ninth pixel)");
        dueFault(".........", 8);
        dueFault("........a", 8);
        dueFault("........abc", 8);
        dueFault("........g", 8);
        dueFault("000111222333444555666777.", 24);
        dueFault("0001112223334445556667778", 24);
        dueFault("000111222333444555666777888", 24);
        dueFault(".......abc.", 10);
        dueFault("................................................", 8);
        dueFault("000111222333444555666777888999aaabbbcccdddeeefff", 24);
        sentence(18, "if there is none and the text ends too early (also if it is empty), it is the length of the text.");
        dueFault("", 0);
        dueFault("a", 1);
        dueFault("ab", 2);
        dueFault("abcd", 4);
        dueFault("abcde", 5);
        dueFault(".a", 2);
        dueFault(".......ab", 9);
        dueFault("00011122233344455566677", 23);
        dueFault("g0", 0);
        GlassSpill x = new GlassSpill();
        write(x, "abc");
        x.wipe();
        due("fault of a pad that was emptied", x.fault(), 0);
    }
}
