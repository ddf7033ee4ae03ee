import java.util.function.IntToLongFunction;
import java.util.function.Supplier;
import java.util.function.ToLongFunction;

/** What the tests of boundary cases share: which sentence is tested, what is due there, and objects in a known state. */
abstract class Edges {
    static final int NO_SUCH = -1, BAD_VALUE = -2, BAD_TEXT = -3, TOO_MANY = -4, NOT_POSSIBLE = -5, NONE = -6;
    static final int NEAR = 0, FAR = 1, BODY = 2, HAIR = 3, GLASS = 4, CLOSE = 5;
    static final int BLACK = 0x000, WHITE = 0xfff, RED = 0xf00, GREEN = 0x0f0, BLUE = 0x00f;
    static final int COLOUR_OF_FRONT = 0, COLOUR_OF_BACK = 1, DISTANCE = 2, RAW = 3, OPAQUE = 4;
    static final int KIND = 5, SPILL = 6, TAKEN = 7, CLEANED = 8, COMPOSED = 9;
    static final int IS_CLEAR = 0, IS_SOFT = 1, IS_HAIR = 2, IS_BODY = 3, IS_GLASS = 4;
    static final int SCREEN = 6, CLEAR_PIXELS = 7, SOFT_PIXELS = 8, HAIR_PIXELS = 9, BODY_PIXELS = 10;
    static final int GLASS_PIXELS = 11, ALL_OPAQUE = 12, ALL_SPILL = 13, ALL_TAKEN = 14, HOLES = 15;
    static final int LIKE_BACK = 16, LIKE_FRONT = 17, MARKED = 18, PAD = 19, UNDOABLE = 20;

    /** Ways to look at an object: as it is, after 1 to 6 undos, and after a restore of each slot. */
    private static final int VIEWS = 9, MOST_UNDOS = 6;

    private static String tested = "";
    private static int wrong = 0;

    Edges() {
    }

    /** From here on it is these words of the promise, or of the terms, that are tested. */
    static void sentence(int promise, String words) {
        tested = "promise " + promise + ", \"" + words + "\"";
        if (!Document.isQuoted(promise, words)) {
            wrong++;
            System.out.println(tested + " does not stand in the document");
        }
    }

    static void due(String call, long got, long want) {
        if (got != want) {
            wrong++;
            System.out.println(tested + ": " + call + " answered " + got + ", due is " + want);
        }
    }

    private static void dueText(String call, String got, String want) {
        if (!got.equals(want)) {
            wrong++;
            System.out.println(tested + ": " + call + " tells\n  " + got + "\n  due is\n  " + want);
        }
    }

    static int wrong() {
        for (String untested : Document.untested()) {
            wrong++;
            System.out.println("no test of a boundary case quotes: " + untested);
        }
        return wrong;
    }

    // ---- ranges

    /** Numbers just beyond the ends of a range, far beyond them, and of which just the lower bits are in it. */
    static void outOfRange(String call, int least, int greatest, IntToLongFunction made, int error) {
        int[] numbers = {least - 1, greatest + 1, least - 2, greatest + 2, Integer.MIN_VALUE, Integer.MAX_VALUE,
            Integer.MIN_VALUE + least, 1 << 16 | least, 1 << 30 | least};
        for (int number : numbers) {
            due(call + " of " + number, made.applyAsLong(number), error);
        }
    }

    // ---- objects

    static GlassSpill all(int colour) {
        GlassSpill x = new GlassSpill();
        x.fill(true, 0, 47, colour);
        return x;
    }

    /**
     * A front of signs, rows of eight, the others clear: "." is clear, "-" opaque by 4, "+" opaque by 14, "#" body,
     * all of them with the first settings.
     */
    static GlassSpill picture(String... rows) {
        GlassSpill x = all(GREEN);
        for (int y = 0; y < rows.length; y++) {
            for (int column = 0; column < rows[y].length(); column++) {
                char sign = rows[y].charAt(column);
                if (sign != '.') {
                    x.paint(true, 8 * y + column, sign == '-' ? 0x060 : sign == '+' ? 0x200 : RED);
                }
            }
        }
        return x;
    }

    /** More changes than the history keeps, one slot of two in use, and a text that ends too early. */
    static GlassSpill busy() {
        GlassSpill x = all(GREEN);
        x.fill(false, 0, 47, 0x123);
        x.mark(9, true);
        x.save(0);
        x.set(HAIR, 5);
        x.screen(0x1e0);
        x.paint(true, 20, 0x060);
        x.fill(true, 11, 13, RED);
        x.mark(21, true);
        x.paint(false, 30, 0x456);
        write(x, "12");
        return x;
    }

    static long packed(String text) {
        long number = 0;
        for (int i = 0; i < text.length(); i++) {
            number = number << 8 | text.charAt(i);
        }
        return number;
    }

    /** Puts a text on the pad in place of what stood there. */
    static void write(GlassSpill x, String text) {
        x.wipe();
        for (int i = 0; i < text.length(); i += 8) {
            x.put(packed(text.substring(i, Math.min(text.length(), i + 8))));
        }
    }

    // ---- everything that can be seen of an object

    /** What is saved and undone. */
    static String scene(GlassSpill x) {
        StringBuilder told = new StringBuilder("settings and screen");
        for (int what = 0; what <= SCREEN; what++) {
            told.append(' ').append(x.count(what));
        }
        told.append(" front and back");
        for (int pixel = 0; pixel < 48; pixel++) {
            told.append(' ').append(x.pixel(pixel, COLOUR_OF_FRONT)).append('/').append(x.pixel(pixel, COLOUR_OF_BACK));
        }
        told.append(" marked");
        for (int row = 0; row < 6; row++) {
            told.append(' ').append(x.row(row, IS_GLASS));
        }
        return told.toString();
    }

    static void dueScene(String call, GlassSpill x, String want) {
        dueText(call, scene(x), want);
    }

    /** Each view is of an object of its own: to look by all of them would take more calls than one is used for. */
    private static String view(GlassSpill x, int which) {
        StringBuilder told = new StringBuilder("view " + which + ":");
        for (int i = 0; i < which && which <= MOST_UNDOS; i++) {
            told.append(' ').append(x.undo());
        }
        if (which > MOST_UNDOS) {
            told.append(' ').append(x.restore(which - MOST_UNDOS - 1));
        }
        told.append(" pad ").append(x.count(PAD)).append(" fault ").append(x.fault());
        told.append(" undoable ").append(x.count(UNDOABLE)).append(' ').append(scene(x));
        return told.toString();
    }

    /** The call answers so, and nothing at all is different by it. */
    static void leavesAll(String call, Supplier<GlassSpill> made, ToLongFunction<GlassSpill> called, long want) {
        for (int which = 0; which < VIEWS; which++) {
            GlassSpill x = made.get();
            due(call, called.applyAsLong(x), want);
            dueText(call, view(x, which), view(made.get(), which));
        }
    }

    static void leavesAll(String call, ToLongFunction<GlassSpill> called, long want) {
        leavesAll(call, Edges::busy, called, want);
    }

    /** Just one more change can be undone by the call, and its undo brings back what was. */
    static void isOneChange(String call, Supplier<GlassSpill> made, ToLongFunction<GlassSpill> called) {
        GlassSpill x = made.get();
        String before = scene(x);
        int undoable = x.count(UNDOABLE);
        called.applyAsLong(x);
        due("changes that can be undone after " + call, x.count(UNDOABLE), Math.min(6, undoable + 1));
        due("undo of " + call, x.undo(), Math.min(6, undoable + 1) - 1);
        dueScene("undo of " + call, x, before);
    }
}
