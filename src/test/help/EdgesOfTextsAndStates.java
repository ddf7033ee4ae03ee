import java.util.function.Consumer;

/** Boundary cases of the promises 16 to 21: the pad, undo and saved states. */
final class EdgesOfTextsAndStates extends Edges {
    private EdgesOfTextsAndStates() {
    }

    static void run() {
        put();
        putErrors();
        putTooMany();
        wipe();
        fault();
        undo();
        historyOfSix();
        historyOfTheSame();
        undoLeavesTheRest();
        whatIsNoChange();
        save();
        restore();
        restoreErrors();
    }

    // ---- promise 16

    private static void put() {
        sentence(16, "Appends characters to the pad.");
        GlassSpill x = new GlassSpill();
        due("put of one", x.put('a'), 1);
        due("put of two", x.put(packed("bc")), 3);
        due("fault of all three", x.fault(), NONE);
        x.read(true, 0);
        due("the colour of them", x.pixel(0, COLOUR_OF_FRONT), 0xabc);
        sentence(16, "its lowest 8 bits are the last character, the next 8 bits the one before, and so on");
        due("put of three", x.put(0x61L << 16 | 0x62L << 8 | 0x63L), 3);
        x.read(true, 1);
        due("the colour of them", x.pixel(8, COLOUR_OF_FRONT), 0xabc);
        due("put of eight", x.put(packed("1234567.")), 8);
        due("fault behind two colours", x.fault(), 7);
        x.wipe();
        x.put(packed(".1234567"));
        x.put(packed("89"));
        due("read of them", x.read(false, 0), 3);
        due("the first of them", x.pixel(1, COLOUR_OF_BACK), 0x123);
        due("the last of them", x.pixel(3, COLOUR_OF_BACK), 0x789);
        sentence(16, "8 bits that are 0 mean that there are no more characters");
        for (int length = 1; length <= 7; length++) {
            due("put of " + length, new GlassSpill().put(packed("abcdefg".substring(0, length))), length);
        }
        sentence(16, "`characters`: 1 to 8 characters");
        due("put of one", new GlassSpill().put('!'), 1);
        due("put of eight", new GlassSpill().put(packed("!~!~!~!~")), 8);
        due("put of none", new GlassSpill().put(0), BAD_VALUE);
        sentence(16, "Returns the length of the pad then");
        x = new GlassSpill();
        int[] lengths = {8, 1, 7, 2, 6, 3, 5, 4};
        int length = 0;
        for (int added : lengths) {
            length += added;
            due("put of " + added, x.put(packed("abcdefgh".substring(0, added))), length);
        }
    }

    private static void putErrors() {
        GlassSpill x = new GlassSpill();
        sentence(16, "BAD_VALUE if there is no character");
        due("put of none", x.put(0), BAD_VALUE);
        sentence(16, "a code is not 33 to 126");
        for (int code = 1; code <= 255; code++) {
            boolean isGood = code >= 33 && code <= 126;
            GlassSpill y = new GlassSpill();
            due("put of " + code, y.put(code), isGood ? 1 : BAD_VALUE);
            due("put of " + code + " ahead of another", y.put((long) code << 8 | 'a') > 0 ? 1 : 0, isGood ? 1 : 0);
            due("put of " + code + " behind another", y.put((long) 'a' << 8 | code) > 0 ? 1 : 0, isGood ? 1 : 0);
            due("put of it as the first of eight", y.put((long) code << 56 | packed("abcdefg")) > 0 ? 1 : 0, isGood ? 1 : 0);
        }
        sentence(16, "and everything above them has to be 0, too.");
        due("a character above 8 bits that are 0", x.put(0x610061L), BAD_VALUE);
        due("none below a character", x.put(0x6100L), BAD_VALUE);
        due("none below seven", x.put(packed("abcdefg") << 8), BAD_VALUE);
        sentence(16, "or a bit above 8 bits that are 0 is not 0");
        for (int good = 1; good <= 6; good++) {
            long characters = packed("abcdef".substring(0, good));
            for (int bit = 8 * good + 8; bit < 64; bit++) {
                due("put of " + good + " below the bit " + bit, x.put(characters | 1L << bit), BAD_VALUE);
            }
        }
        due("put of the least number", x.put(Long.MIN_VALUE), BAD_VALUE);
        due("put of the greatest number", x.put(Long.MAX_VALUE), BAD_VALUE);
        due("put of -1", x.put(-1), BAD_VALUE);
        due("the pad", x.count(PAD), 0);
    }

    private static void putTooMany() {
        sentence(16, "The pad is a text of at most 48 characters");
        GlassSpill x = new GlassSpill();
        for (int i = 1; i <= 6; i++) {
            due("put of eight", x.put(packed("abcdefgh")), 8 * i);
        }
        due("the pad", x.count(PAD), 48);
        due("put of one more", x.put('a'), TOO_MANY);
        sentence(16, "TOO_MANY if the pad would be longer than 48.");
        for (int length = 41; length <= 48; length++) {
            GlassSpill y = new GlassSpill();
            write(y, "abcdefghabcdefghabcdefghabcdefghabcdefghabcdefgh".substring(0, length));
            int room = 48 - length;
            due("put of one too many with " + length, y.put(packed("abcdefgh".substring(0, room + 1))), TOO_MANY);
            due("the pad stays", y.count(PAD), length);
            due("put of eight with " + length, y.put(packed("abcdefgh")), TOO_MANY);
            if (room > 0) {
                due("put of what there is room for", y.put(packed("abcdefgh".substring(0, room))), 48);
            }
            due("wipe of it", y.wipe(), 48);
            due("put after that", y.put('a'), 1);
        }
    }

    // ---- promises 17 and 18

    private static void wipe() {
        sentence(17, "Empties the pad, and returns the length that it had.");
        GlassSpill x = new GlassSpill();
        due("wipe of an empty pad", x.wipe(), 0);
        x.put('a');
        due("wipe of one", x.wipe(), 1);
        due("the pad", x.count(PAD), 0);
        due("wipe again", x.wipe(), 0);
        write(x, "abcdefghabcdefghabcdefghabcdefghabcdefghabcdefgh");
        due("wipe of a full pad", x.wipe(), 48);
        due("the pad", x.count(PAD), 0);
        due("put after that", x.put('.'), 1);
        due("fault of that alone", x.fault(), NONE);
    }

    private static void fault() {
        sentence(18, "Returns the fault of the pad");
        GlassSpill x = new GlassSpill();
        due("the least", x.fault(), 0);
        write(x, "000111222333444555666777888");
        due("the greatest", x.fault(), 24);
        leavesAll("fault", Edges::busy, GlassSpill::fault, 2);
        sentence(18, "NONE if there is none.");
        write(x, "000111222333444555666777");
        due("fault of eight colours", x.fault(), NONE);
        write(x, ".");
        due("fault of one pixel", x.fault(), NONE);
        leavesAll("fault of a good text", EdgesOfTextsAndStates::busyWithText, GlassSpill::fault, NONE);
    }

    private static GlassSpill busyWithText() {
        GlassSpill x = busy();
        write(x, "abc.");
        return x;
    }

    // ---- promise 19

    private static void undo() {
        sentence(19, "Undoes the latest change");
        GlassSpill x = new GlassSpill();
        x.screen(1);
        x.paint(true, 0, 2);
        x.set(CLOSE, 1);
        due("undo", x.undo(), 2);
        due("the setting", x.count(CLOSE), 0);
        due("the pixel", x.pixel(0, COLOUR_OF_FRONT), 2);
        due("undo of the one before", x.undo(), 1);
        due("the pixel", x.pixel(0, COLOUR_OF_FRONT), 0);
        due("the screen", x.count(SCREEN), 1);
        x.paint(false, 0, 3);
        due("undo of one after undos", x.undo(), 1);
        due("the screen", x.count(SCREEN), 1);
        due("undo of the first", x.undo(), 0);
        due("the screen", x.count(SCREEN), GREEN);
        sentence(19, "Returns how many changes can be undone then");
        for (int i = 0; i < 9; i++) {
            x.screen(i);
        }
        for (int left = 5; left >= 0; left--) {
            due("undo", x.undo(), left);
            due("how many", x.count(UNDOABLE), left);
        }
        sentence(19, "NOT_POSSIBLE if there is none.");
        due("undo after all of them", x.undo(), NOT_POSSIBLE);
        due("undo again", x.undo(), NOT_POSSIBLE);
        due("undo of a new object", new GlassSpill().undo(), NOT_POSSIBLE);
        GlassSpill refused = new GlassSpill();
        refused.screen(-1);
        refused.put('a');
        refused.save(0);
        due("undo after an error and what is no change", refused.undo(), NOT_POSSIBLE);
    }

    private static void historyOfSix() {
        sentence(19, "A history of at most 6 states is kept");
        for (int changes = 0; changes <= 14; changes++) {
            GlassSpill x = new GlassSpill();
            for (int i = 1; i <= changes; i++) {
                x.paint(true, 0, i);
            }
            int kept = Math.min(6, changes);
            due("states after " + changes, x.count(UNDOABLE), kept);
            for (int i = 1; i <= kept; i++) {
                due("undo", x.undo(), kept - i);
            }
            due("one undo more", x.undo(), NOT_POSSIBLE);
        }
        sentence(19, "when one more is recorded, the oldest one is dropped.");
        for (int changes = 6; changes <= 20; changes++) {
            GlassSpill x = new GlassSpill();
            for (int i = 1; i <= changes; i++) {
                x.paint(true, 0, i);
            }
            for (int i = 1; i <= 6; i++) {
                x.undo();
                due("after " + changes + " changes and " + i + " undos", x.pixel(0, COLOUR_OF_FRONT), changes - i);
            }
        }
        dropAfterUndos();
    }

    /** The history is full, then some are undone, and more are recorded than there is room for. */
    private static void dropAfterUndos() {
        for (int undos = 1; undos <= 6; undos++) {
            GlassSpill x = new GlassSpill();
            for (int i = 1; i <= 8; i++) {
                x.paint(true, 0, i);
            }
            for (int i = 0; i < undos; i++) {
                x.undo();
            }
            for (int i = 1; i <= undos; i++) {
                due("undoable", x.count(UNDOABLE), 6 - undos + i - 1);
                x.paint(true, 0, 100 + i);
            }
            x.paint(true, 0, 200);
            due("undoable", x.count(UNDOABLE), 6);
            for (int i = undos; i >= 1; i--) {
                x.undo();
                due("one of the new ones", x.pixel(0, COLOUR_OF_FRONT), 100 + i);
            }
            for (int i = 8 - undos; i >= 3; i--) {
                x.undo();
                due("one of the old ones", x.pixel(0, COLOUR_OF_FRONT), i);
            }
            due("no more", x.undo(), NOT_POSSIBLE);
        }
    }

    private static void historyOfTheSame() {
        sentence(19, "each method that is a change, and returns no error, records the state before it (also if nothing is"
            + " different then)");
        isOneChange("set of the same", Edges::busy, x -> x.set(HAIR, 5));
        isOneChange("screen of the same", Edges::busy, x -> x.screen(0x1e0));
        isOneChange("paint of the same", GlassSpill::new, x -> x.paint(true, 0, 0));
        isOneChange("fill of the same", GlassSpill::new, x -> x.fill(false, 0, 47, 0));
        isOneChange("read of no colour", EdgesOfTextsAndStates::newWithDots, x -> x.read(true, 0));
        isOneChange("keep of the same", GlassSpill::new, GlassSpill::keep);
        isOneChange("restore of the same", EdgesOfTextsAndStates::newSaved, x -> x.restore(0));
        GlassSpill x = new GlassSpill();
        x.screen(GREEN);
        x.set(NEAR, 6);
        x.paint(true, 0, 0);
        due("changes without a difference", x.count(UNDOABLE), 3);
        x.set(NEAR, 18);
        x.paint(true, 48, 0);
        x.mark(0, false);
        x.read(true, 0);
        x.restore(0);
        x.screen(4096);
        x.fill(true, 0, 0, -1);
        due("changes after errors", x.count(UNDOABLE), 3);
    }

    private static GlassSpill newWithDots() {
        GlassSpill x = new GlassSpill();
        write(x, "........");
        return x;
    }

    private static GlassSpill newSaved() {
        GlassSpill x = new GlassSpill();
        x.save(0);
        return x;
    }

    private static void undoLeavesTheRest() {
        sentence(19, "everything except the pad, the slots and the history is as it was before it.");
        isOneChange("set of NEAR", Edges::busy, x -> x.set(NEAR, 1));
        isOneChange("set of FAR", Edges::busy, x -> x.set(FAR, 45));
        isOneChange("set of BODY", Edges::busy, x -> x.set(BODY, 0));
        isOneChange("set of HAIR", Edges::busy, x -> x.set(HAIR, 0));
        isOneChange("set of GLASS", Edges::busy, x -> x.set(GLASS, 0));
        isOneChange("set of CLOSE", Edges::busy, x -> x.set(CLOSE, 1));
        isOneChange("screen", Edges::busy, x -> x.screen(0));
        isOneChange("paint of the front", Edges::busy, x -> x.paint(true, 47, 5));
        isOneChange("paint of the back", Edges::busy, x -> x.paint(false, 47, 5));
        isOneChange("fill of the front", Edges::busy, x -> x.fill(true, 0, 47, 5));
        isOneChange("fill of the back", Edges::busy, x -> x.fill(false, 0, 47, 5));
        isOneChange("read to the front", EdgesOfTextsAndStates::busyWithText, x -> x.read(true, 5));
        isOneChange("read to the back", EdgesOfTextsAndStates::busyWithText, x -> x.read(false, 5));
        isOneChange("mark", Edges::busy, x -> x.mark(0, true));
        isOneChange("the end of a mark", Edges::busy, x -> x.mark(21, false));
        isOneChange("keep", Edges::busy, GlassSpill::keep);
        isOneChange("restore", Edges::busy, x -> x.restore(0));
        GlassSpill x = new GlassSpill();
        write(x, "abc");
        x.read(true, 0);
        x.undo();
        due("the pad that read emptied", x.count(PAD), 0);
        x.screen(RED);
        write(x, "abcd");
        x.undo();
        due("the pad", x.count(PAD), 4);
        due("its fault", x.fault(), 4);
        x.screen(RED);
        x.save(0);
        x.undo();
        due("the slot", x.restore(0), 0);
        due("what was saved in it", x.count(SCREEN), RED);
        x.undo();
        due("the slot that was restored", x.restore(0), 0);
    }

    private static void whatIsNoChange() {
        sentence(19, "each method that is a change");
        dueNoChange("put", x -> x.put('a'));
        dueNoChange("wipe", GlassSpill::wipe);
        dueNoChange("fault", GlassSpill::fault);
        dueNoChange("save", x -> x.save(1));
        dueNoChange("pixel", x -> x.pixel(0, 9));
        dueNoChange("count", x -> x.count(16));
        dueNoChange("row", x -> x.row(0, 0));
        dueNoChange("bestScreen", x -> x.bestScreen(0));
        dueNoChange("leastNear", x -> x.leastNear(0));
        dueNoChange("ifSet", x -> x.ifSet(CLOSE, 1));
        dueNoChange("bestShare", x -> x.bestShare(BODY, 0));
        GlassSpill x = new GlassSpill();
        x.screen(1);
        x.screen(2);
        x.undo();
        due("an undo is none itself", x.undo(), 0);
        due("the screen", x.count(SCREEN), GREEN);
    }

    private static void dueNoChange(String call, Consumer<GlassSpill> called) {
        GlassSpill x = new GlassSpill();
        x.screen(5);
        called.accept(x);
        due("changes after " + call, x.count(UNDOABLE), 1);
        due("undo after " + call, x.undo(), 0);
        due("the screen after " + call, x.count(SCREEN), GREEN);
    }

    // ---- promises 20 and 21

    /** A scene of which every part is another one than in a new object and in busy(). */
    private static void changeAll(GlassSpill x) {
        x.set(NEAR, 7);
        x.set(FAR, 19);
        x.set(BODY, 3);
        x.set(HAIR, 2);
        x.set(GLASS, 1);
        x.set(CLOSE, 1);
        x.screen(0xfed);
        x.fill(true, 0, 47, 0x135);
        x.fill(false, 0, 47, 0x246);
        x.mark(47, true);
        x.mark(0, true);
    }

    private static void save() {
        sentence(20, "Saves everything except the pad, the history and the slots in a slot");
        for (int slot = 0; slot < 2; slot++) {
            GlassSpill x = new GlassSpill();
            changeAll(x);
            String before = scene(x);
            write(x, "ab");
            x.save(slot);
            dueScene("save", x, before);
            x.undo();
            x.undo();
            x.fill(true, 0, 47, 0);
            x.put('c');
            int undoable = x.count(UNDOABLE);
            due("restore", x.restore(slot), 2);
            dueScene("restore", x, before);
            due("the pad", x.count(PAD), 3);
            due("changes", x.count(UNDOABLE), undoable + 1);
        }
        GlassSpill x = new GlassSpill();
        x.save(1);
        x.save(0);
        x.screen(RED);
        x.save(1);
        x.restore(0);
        due("the other slot after the first was restored", x.restore(1), 0);
        due("what was saved in it", x.count(SCREEN), RED);
        sentence(20, "and overwrites what was saved there.");
        x.screen(BLUE);
        x.save(0);
        x.screen(WHITE);
        x.save(0);
        x.screen(BLACK);
        x.restore(0);
        due("what was saved last", x.count(SCREEN), WHITE);
        x.restore(1);
        due("what was saved in the other", x.count(SCREEN), RED);
        sentence(20, "`slot`: 0 or 1");
        due("the first", x.save(0), 0);
        due("the second", x.save(1), 0);
        sentence(20, "Returns how many pixels are marked");
        for (int pixel = 0; pixel < 48; pixel++) {
            x.mark(pixel, true);
            due("save with " + pixel + " more", x.save(pixel % 2), pixel + 1);
        }
        sentence(20, "BAD_VALUE if there is no such slot.");
        outOfRange("save", 0, 1, x::save, BAD_VALUE);
    }

    private static void restore() {
        sentence(21, "Restores what was saved last in a slot, which keeps it.");
        for (int slot = 0; slot < 2; slot++) {
            GlassSpill x = busy();
            String before = scene(x);
            x.save(slot);
            for (int time = 1; time <= 2; time++) {
                if (time == 1) {
                    changeAll(x);
                } else {
                    // what is restored is changed by the pixel, and what is saved stays
                    x.paint(true, 20, WHITE);
                    x.mark(5, true);
                }
                due("restore " + time, x.restore(slot), 2);
                due("front", x.pixel(20, COLOUR_OF_FRONT), 0x060);
            }
            dueScene("restore twice", x, before);
        }
        sentence(21, "This is a change.");
        isOneChange("restore", Edges::busy, x -> x.restore(0));
        isOneChange("restore of what is there", EdgesOfTextsAndStates::newSaved, x -> x.restore(0));
        sentence(21, "`slot`: 0 or 1");
        GlassSpill x = new GlassSpill();
        x.save(0);
        x.screen(RED);
        x.save(1);
        x.screen(BLUE);
        due("the first", x.restore(0), 0);
        due("what it is", x.count(SCREEN), GREEN);
        due("the second", x.restore(1), 0);
        due("what it is", x.count(SCREEN), RED);
        sentence(21, "Returns how many pixels are marked then");
        for (int pixel = 0; pixel < 48; pixel++) {
            x.mark(pixel, true);
        }
        due("none", x.restore(0), 0);
        x.undo();
        x.save(1);
        x.mark(7, false);
        due("all", x.restore(1), 48);
        due("all, as counted", x.count(MARKED), 48);
    }

    private static void restoreErrors() {
        GlassSpill x = new GlassSpill();
        sentence(21, "BAD_VALUE if there is no such slot");
        outOfRange("restore", 0, 1, x::restore, BAD_VALUE);
        x.save(0);
        x.save(1);
        outOfRange("restore", 0, 1, x::restore, BAD_VALUE);
        sentence(21, "NOT_POSSIBLE if nothing was saved in it.");
        due("the first of a new object", new GlassSpill().restore(0), NOT_POSSIBLE);
        due("the second of a new object", new GlassSpill().restore(1), NOT_POSSIBLE);
        GlassSpill first = new GlassSpill();
        first.save(0);
        due("the other one", first.restore(1), NOT_POSSIBLE);
        due("the one that is saved", first.restore(0), 0);
        GlassSpill second = new GlassSpill();
        second.save(1);
        due("the other one", second.restore(0), NOT_POSSIBLE);
        due("the one that is saved", second.restore(1), 0);
        due("the other one still", second.restore(0), NOT_POSSIBLE);
    }
}
