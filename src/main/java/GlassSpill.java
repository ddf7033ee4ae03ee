/**
 * Takes the spill of a chroma screen out of a picture, composes the picture with a back plate, and
 * lets hair and glass keep a share of the spill that is their own. The document is ../shared/DOC.md.
 */
public final class GlassSpill {
    public static final int NO_SUCH = -1, BAD_VALUE = -2, BAD_TEXT = -3, TOO_MANY = -4, NOT_POSSIBLE = -5, NONE = -6;
    public static final int NEAR = 0, FAR = 1, BODY = 2, HAIR = 3, GLASS = 4, CLOSE = 5;

    private static final int NO_ERROR = 0;

    private static final int SETTINGS = 6;
    private static final int[] FIRST_VALUES = {6, 18, 16, 8, 4, 0};
    private static final int[] HIGHEST_VALUES = {45, 45, 16, 16, 16, 1};
    private static final int FULL = 16;

    private static final int COLUMNS = 8, ROWS = 6, PIXELS = 48;
    private static final int SIDES = 4, ABOVE = 0, BELOW = 1, LEFT = 2;
    private static final int NOWHERE = -1;

    private static final int PARTS = 3, COLOURS = 4096, GREEN = 240;

    private static final int IS_CLEAR = 0, IS_SOFT = 1, IS_HAIR = 2, IS_BODY = 3, IS_GLASS = 4, KINDS = 5;

    private static final int PAD_LENGTH = 48, CHARACTERS_AT_ONCE = 8, LOWEST_CODE = 33, HIGHEST_CODE = 126;
    private static final int HISTORY_LENGTH = 6, SLOTS = 2;

    private final Scene now = new Scene();
    private final Scene trial = new Scene();
    private final View shown = new View();
    private final View trialView = new View();
    private final Pad pad = new Pad();
    private final History history = new History();
    private final Scene[] slots = new Scene[SLOTS];

    public GlassSpill() {
    }

    // ---- changes

    public int set(int setting, int value) {
        int error = errorOfSetting(setting, value);
        if (error != NO_ERROR) {
            return error;
        }
        history.remember(now);
        return now.changeSetting(setting, value);
    }

    public int screen(int colour) {
        if (!isColour(colour)) {
            return BAD_VALUE;
        }
        history.remember(now);
        int previous = now.screenColour;
        now.screenColour = colour;
        return previous;
    }

    public int paint(boolean isFront, int pixel, int colour) {
        if (!isPixel(pixel)) {
            return NO_SUCH;
        }
        if (!isColour(colour)) {
            return BAD_VALUE;
        }
        history.remember(now);
        int[] picture = now.picture(isFront);
        int previous = picture[pixel];
        picture[pixel] = colour;
        return previous;
    }

    public int fill(boolean isFront, int pixel, int other, int colour) {
        if (!isPixel(pixel) || !isPixel(other)) {
            return NO_SUCH;
        }
        if (!isColour(colour)) {
            return BAD_VALUE;
        }
        history.remember(now);
        return fillBetween(now.picture(isFront), pixel, other, colour);
    }

    public int read(boolean isFront, int row) {
        if (!isRow(row)) {
            return NO_SUCH;
        }
        if (pad.firstFault() != NONE) {
            return BAD_TEXT;
        }
        history.remember(now);
        int painted = pad.paintOn(now.picture(isFront), COLUMNS * row);
        pad.length = 0;
        return painted;
    }

    public int mark(int pixel, boolean isGlass) {
        if (!isPixel(pixel)) {
            return NO_SUCH;
        }
        if (now.glass[pixel] == isGlass) {
            return NOT_POSSIBLE;
        }
        history.remember(now);
        now.glass[pixel] = isGlass;
        return now.marked();
    }

    public int keep() {
        history.remember(now);
        shown.show(now);
        int changed = PIXELS - sameColours(shown.composed, now.front);
        for (int i = 0; i < PIXELS; i++) {
            now.front[i] = shown.composed[i];
            now.glass[i] = false;
        }
        return changed;
    }

    // ---- what there is; nothing changes

    public int pixel(int pixel, int what) {
        if (!isPixel(pixel)) {
            return NO_SUCH;
        }
        shown.show(now);
        switch (what) {
            case 0: return now.front[pixel];
            case 1: return now.back[pixel];
            case 2: return now.distanceOf(pixel);
            case 3: return shown.raw[pixel];
            case 4: return shown.opaque[pixel];
            case 5: return shown.kinds[pixel];
            case 6: return shown.spill[pixel];
            case 7: return shown.taken[pixel];
            case 8: return shown.cleaned[pixel];
            case 9: return shown.composed[pixel];
            default: return BAD_VALUE;
        }
    }

    public int count(int what) {
        if (what >= 0 && what < SETTINGS) {
            return now.settings[what];
        }
        shown.show(now);
        switch (what) {
            case 6: return now.screenColour;
            case 7: return shown.ofKind(IS_CLEAR);
            case 8: return shown.ofKind(IS_SOFT);
            case 9: return shown.ofKind(IS_HAIR);
            case 10: return shown.ofKind(IS_BODY);
            case 11: return shown.ofKind(IS_GLASS);
            case 12: return sum(shown.opaque);
            case 13: return sum(shown.spill);
            case 14: return sum(shown.taken);
            case 15: return shown.closed();
            case 16: return sameColours(shown.composed, now.back);
            case 17: return sameColours(shown.composed, now.front);
            case 18: return now.marked();
            case 19: return pad.length;
            case 20: return history.size;
            default: return BAD_VALUE;
        }
    }

    public int row(int row, int kind) {
        if (!isRow(row)) {
            return NO_SUCH;
        }
        if (kind < 0 || kind >= KINDS) {
            return BAD_VALUE;
        }
        shown.show(now);
        int mask = 0;
        for (int column = 0; column < COLUMNS; column++) {
            if (shown.kinds[COLUMNS * row + column] == kind) {
                mask |= 1 << column;
            }
        }
        return mask;
    }

    // ---- what if; nothing changes

    public int bestScreen(int what) {
        if (what != 0 && what != 1) {
            return BAD_VALUE;
        }
        trial.copyFrom(now);
        int best = 0;
        int mostClear = -1;
        for (int i = 0; i < PIXELS; i++) {
            trial.screenColour = now.front[i];
            int clear = trialView.clearPixels(trial);
            if (clear > mostClear) {
                best = i;
                mostClear = clear;
            }
        }
        return what == 0 ? best : mostClear;
    }

    public int leastNear(int pixel) {
        if (!isPixel(pixel)) {
            return NO_SUCH;
        }
        int distance = now.distanceOf(pixel);
        return distance < now.settings[FAR] ? distance : NONE;
    }

    public int ifSet(int setting, int value) {
        int error = errorOfSetting(setting, value);
        if (error != NO_ERROR) {
            return error;
        }
        trial.copyFrom(now);
        trial.changeSetting(setting, value);
        shown.show(now);
        trialView.show(trial);
        return PIXELS - sameColours(shown.composed, trialView.composed);
    }

    public int bestShare(int setting, int what) {
        boolean isShare = setting == BODY || setting == HAIR || setting == GLASS;
        if (!isShare || what != 0 && what != 1) {
            return BAD_VALUE;
        }
        trial.copyFrom(now);
        int best = 0;
        int leastSpill = 0;
        for (int share = 0; share <= FULL; share++) {
            trial.changeSetting(setting, share);
            trialView.show(trial);
            int left = trialView.spillLeft(trial);
            if (share == 0 || left < leastSpill) {
                best = share;
                leastSpill = left;
            }
        }
        return what == 0 ? best : leastSpill;
    }

    // ---- texts

    public int put(long characters) {
        int added = charactersIn(characters);
        if (added == 0) {
            return BAD_VALUE;
        }
        if (pad.length + added > PAD_LENGTH) {
            return TOO_MANY;
        }
        pad.append(characters, added);
        return pad.length;
    }

    public int wipe() {
        int length = pad.length;
        pad.length = 0;
        return length;
    }

    public int fault() {
        return pad.firstFault();
    }

    // ---- undo, saving

    public int undo() {
        if (history.size == 0) {
            return NOT_POSSIBLE;
        }
        history.takeBack(now);
        return history.size;
    }

    public int save(int slot) {
        if (!isSlot(slot)) {
            return BAD_VALUE;
        }
        Scene saved = slots[slot];
        if (saved == null) {
            saved = new Scene();
            slots[slot] = saved;
        }
        saved.copyFrom(now);
        return now.marked();
    }

    public int restore(int slot) {
        if (!isSlot(slot)) {
            return BAD_VALUE;
        }
        Scene saved = slots[slot];
        if (saved == null) {
            return NOT_POSSIBLE;
        }
        history.remember(now);
        now.copyFrom(saved);
        return now.marked();
    }

    // ---- what arguments are allowed

    private static boolean isPixel(int pixel) {
        return pixel >= 0 && pixel < PIXELS;
    }

    private static boolean isRow(int row) {
        return row >= 0 && row < ROWS;
    }

    private static boolean isColour(int colour) {
        return colour >= 0 && colour < COLOURS;
    }

    private static boolean isSlot(int slot) {
        return slot >= 0 && slot < SLOTS;
    }

    private static boolean isSetting(int setting) {
        return setting >= 0 && setting < SETTINGS;
    }

    private int errorOfSetting(int setting, int value) {
        if (!isSetting(setting) || value < 0 || value > HIGHEST_VALUES[setting]) {
            return BAD_VALUE;
        }
        int near = setting == NEAR ? value : now.settings[NEAR];
        int far = setting == FAR ? value : now.settings[FAR];
        return near < far ? NO_ERROR : NOT_POSSIBLE;
    }

    /** How many characters the number holds; 0 if it is not one that can be put on the pad. */
    private static int charactersIn(long characters) {
        long rest = characters;
        int found = 0;
        for (int i = 0; i < CHARACTERS_AT_ONCE && rest != 0; i++) {
            int code = (int) (rest & 255);
            if (code < LOWEST_CODE || code > HIGHEST_CODE) {
                return 0;
            }
            found++;
            // without a sign, or a number below 0 would bring ones from above
            rest >>>= 8;
        }
        return found;
    }

    // ---- pixels and colours

    /** The pixel beside a pixel on one of its sides, or NOWHERE beyond the edge of the picture. */
    private static int beside(int pixel, int side) {
        int column = pixel % COLUMNS;
        switch (side) {
            case ABOVE: return pixel >= COLUMNS ? pixel - COLUMNS : NOWHERE;
            case BELOW: return pixel < PIXELS - COLUMNS ? pixel + COLUMNS : NOWHERE;
            case LEFT: return column > 0 ? pixel - 1 : NOWHERE;
            default: return column < COLUMNS - 1 ? pixel + 1 : NOWHERE;
        }
    }

    private static boolean isAtEdge(int pixel) {
        int column = pixel % COLUMNS;
        int row = pixel / COLUMNS;
        return column == 0 || column == COLUMNS - 1 || row == 0 || row == ROWS - 1;
    }

    private static int fillBetween(int[] picture, int pixel, int other, int colour) {
        int left = Math.min(pixel % COLUMNS, other % COLUMNS);
        int right = Math.max(pixel % COLUMNS, other % COLUMNS);
        int top = Math.min(pixel / COLUMNS, other / COLUMNS);
        int bottom = Math.max(pixel / COLUMNS, other / COLUMNS);
        for (int y = top; y <= bottom; y++) {
            for (int x = left; x <= right; x++) {
                picture[COLUMNS * y + x] = colour;
            }
        }
        return (right - left + 1) * (bottom - top + 1);
    }

    /** A part of a colour: 0 is red, 1 green, 2 blue. */
    private static int part(int colour, int name) {
        return colour >> partShift(name) & 15;
    }

    private static int partShift(int name) {
        return 4 * (PARTS - 1 - name);
    }

    private static int mainPart(int colour) {
        int main = 0;
        for (int name = 1; name < PARTS; name++) {
            if (part(colour, name) > part(colour, main)) {
                main = name;
            }
        }
        return main;
    }

    /** How much the part of a name is above the greater one of the two others. */
    private static int spillIn(int colour, int name) {
        int one = part(colour, (name + 1) % PARTS);
        int two = part(colour, (name + 2) % PARTS);
        return Math.max(0, part(colour, name) - Math.max(one, two));
    }

    private static int distance(int colour, int other) {
        int sum = 0;
        for (int name = 0; name < PARTS; name++) {
            sum += Math.abs(part(colour, name) - part(other, name));
        }
        return sum;
    }

    private static int composedColour(int front, int back, int opaque) {
        int colour = 0;
        for (int name = 0; name < PARTS; name++) {
            int mixed = (part(front, name) * opaque + part(back, name) * (FULL - opaque)) / FULL;
            colour |= mixed << partShift(name);
        }
        return colour;
    }

    private static int sum(int[] numbers) {
        int sum = 0;
        for (int number : numbers) {
            sum += number;
        }
        return sum;
    }

    private static int sameColours(int[] picture, int[] other) {
        int same = 0;
        for (int i = 0; i < PIXELS; i++) {
            if (picture[i] == other[i]) {
                same++;
            }
        }
        return same;
    }

    /** What is saved and undone: the settings, the colour of the screen, both pictures, the marks. */
    private static final class Scene {
        final int[] settings = new int[SETTINGS];
        final int[] front = new int[PIXELS];
        final int[] back = new int[PIXELS];
        final boolean[] glass = new boolean[PIXELS];
        int screenColour = GREEN;

        Scene() {
            System.arraycopy(FIRST_VALUES, 0, settings, 0, SETTINGS);
        }

        void copyFrom(Scene other) {
            System.arraycopy(other.settings, 0, settings, 0, SETTINGS);
            System.arraycopy(other.front, 0, front, 0, PIXELS);
            System.arraycopy(other.back, 0, back, 0, PIXELS);
            for (int i = 0; i < PIXELS; i++) {
                glass[i] = other.glass[i];
            }
            screenColour = other.screenColour;
        }

        int changeSetting(int setting, int value) {
            if (!isSetting(setting)) {
                return BAD_VALUE;
            }
            int previous = settings[setting];
            settings[setting] = value;
            return previous;
        }

        int[] picture(boolean isFront) {
            return isFront ? front : back;
        }

        int distanceOf(int pixel) {
            return isPixel(pixel) ? distance(front[pixel], screenColour) : NO_SUCH;
        }

        int marked() {
            int marked = 0;
            for (int i = 0; i < PIXELS; i++) {
                if (glass[i]) {
                    marked++;
                }
            }
            return marked;
        }
    }

    /** What follows from a scene for each pixel; its rows hold for the scene that was shown last. */
    private static final class View {
        final int[] raw = new int[PIXELS];
        final int[] opaque = new int[PIXELS];
        final int[] kinds = new int[PIXELS];
        final int[] spill = new int[PIXELS];
        final int[] taken = new int[PIXELS];
        final int[] cleaned = new int[PIXELS];
        final int[] composed = new int[PIXELS];
        private final boolean[] reached = new boolean[PIXELS];
        private final int[] queue = new int[PIXELS];
        private int queued = 0;

        void show(Scene scene) {
            findOpaque(scene);
            findKinds(scene);
            compose(scene);
        }

        int clearPixels(Scene scene) {
            findOpaque(scene);
            int clear = 0;
            for (int i = 0; i < PIXELS; i++) {
                if (opaque[i] == 0 && !scene.glass[i]) {
                    clear++;
                }
            }
            return clear;
        }

        int ofKind(int kind) {
            int found = 0;
            for (int i = 0; i < PIXELS; i++) {
                if (kinds[i] == kind) {
                    found++;
                }
            }
            return found;
        }

        int closed() {
            int closed = 0;
            for (int i = 0; i < PIXELS; i++) {
                if (opaque[i] != raw[i]) {
                    closed++;
                }
            }
            return closed;
        }

        int spillLeft(Scene scene) {
            int main = mainPart(scene.screenColour);
            int left = 0;
            for (int i = 0; i < PIXELS; i++) {
                left += spillIn(composed[i], main);
            }
            return left;
        }

        private void findOpaque(Scene scene) {
            int near = scene.settings[NEAR];
            int far = scene.settings[FAR];
            for (int i = 0; i < PIXELS; i++) {
                raw[i] = rawOpaque(scene.distanceOf(i), near, far);
                opaque[i] = raw[i];
            }
            if (scene.settings[CLOSE] == 1) {
                closeHoles();
            }
        }

        private static int rawOpaque(int distance, int near, int far) {
            if (distance <= near) {
                return 0;
            }
            // past both tests far is above near, so that the divisor is above 0
            if (distance >= far) {
                return FULL;
            }
            return FULL * (distance - near) / (far - near);
        }

        private void closeHoles() {
            reachFromEdge();
            for (int i = 0; i < PIXELS; i++) {
                if (!reached[i]) {
                    opaque[i] = FULL;
                }
            }
        }

        private void reachFromEdge() {
            queued = 0;
            for (int i = 0; i < PIXELS; i++) {
                reached[i] = false;
            }
            for (int i = 0; i < PIXELS; i++) {
                if (isAtEdge(i)) {
                    reach(i);
                }
            }
            for (int next = 0; next < PIXELS && next < queued; next++) {
                for (int side = 0; side < SIDES; side++) {
                    reach(beside(queue[next], side));
                }
            }
        }

        private void reach(int pixel) {
            if (isPixel(pixel) && raw[pixel] < FULL && !reached[pixel] && queued < PIXELS) {
                reached[pixel] = true;
                queue[queued] = pixel;
                queued++;
            }
        }

        private void findKinds(Scene scene) {
            for (int i = 0; i < PIXELS; i++) {
                kinds[i] = scene.glass[i] ? IS_GLASS : unmarkedKind(i);
            }
        }

        private int unmarkedKind(int pixel) {
            if (!isPixel(pixel)) {
                return NO_SUCH;
            }
            if (opaque[pixel] == 0) {
                return IS_CLEAR;
            }
            if (opaque[pixel] == FULL) {
                return IS_BODY;
            }
            return isOneBeside(pixel, FULL) && isOneBeside(pixel, 0) ? IS_HAIR : IS_SOFT;
        }

        private boolean isOneBeside(int pixel, int howOpaque) {
            for (int side = 0; side < SIDES; side++) {
                int other = beside(pixel, side);
                if (isPixel(other) && opaque[other] == howOpaque) {
                    return true;
                }
            }
            return false;
        }

        private void compose(Scene scene) {
            int main = mainPart(scene.screenColour);
            for (int i = 0; i < PIXELS; i++) {
                spill[i] = spillIn(scene.front[i], main);
                taken[i] = spill[i] * share(scene, kinds[i]) / FULL;
                cleaned[i] = scene.front[i] - (taken[i] << partShift(main));
                composed[i] = composedColour(cleaned[i], scene.back[i], opaque[i]);
            }
        }

        private static int share(Scene scene, int kind) {
            switch (kind) {
                case IS_SOFT:
                case IS_BODY: return scene.settings[BODY];
                case IS_HAIR: return scene.settings[HAIR];
                case IS_GLASS: return scene.settings[GLASS];
                default: return 0;
            }
        }
    }

    /** The text that rows of pixels are read from. */
    private static final class Pad {
        private final int[] codes = new int[PAD_LENGTH];
        int length = 0;

        void append(long characters, int added) {
            for (int i = added - 1; i >= 0 && length < PAD_LENGTH; i--) {
                codes[length] = (int) (characters >>> 8 * i & 255);
                length++;
            }
        }

        int firstFault() {
            int pixels = 0;
            int parts = 0;
            for (int i = 0; i < length && i < PAD_LENGTH; i++) {
                if (pixels == COLUMNS) {
                    return i;
                }
                if (partOf(codes[i]) >= 0) {
                    parts++;
                } else if (codes[i] != '.' || parts > 0) {
                    return i;
                }
                if (parts == PARTS || codes[i] == '.') {
                    parts = 0;
                    pixels++;
                }
            }
            return pixels == 0 || parts > 0 ? length : NONE;
        }

        /** Paints the colours of a text without a fault from a pixel on; tells how many were painted. */
        int paintOn(int[] picture, int firstPixel) {
            int pixel = firstPixel;
            int painted = 0;
            int parts = 0;
            int colour = 0;
            for (int i = 0; i < length && i < PAD_LENGTH; i++) {
                if (codes[i] == '.') {
                    pixel++;
                    continue;
                }
                colour = 16 * colour + partOf(codes[i]);
                parts++;
                if (parts == PARTS && isPixel(pixel)) {
                    picture[pixel] = colour;
                    pixel++;
                    painted++;
                    parts = 0;
                    colour = 0;
                }
            }
            return painted;
        }

        /** The part that a character tells, below 0 if it tells none. */
        private static int partOf(int code) {
            if (code >= '0' && code <= '9') {
                return code - '0';
            }
            return code >= 'a' && code <= 'f' ? code - 'a' + 10 : -1;
        }
    }

    /** The states before the latest changes, in a ring: the oldest one's place is used again. */
    private static final class History {
        private final Scene[] states = new Scene[HISTORY_LENGTH];
        private int oldest = 0;
        int size = 0;

        History() {
            for (int i = 0; i < HISTORY_LENGTH; i++) {
                states[i] = new Scene();
            }
        }

        void remember(Scene scene) {
            Scene state = states[Math.floorMod(oldest + size, HISTORY_LENGTH)];
            if (state == null) {
                return;
            }
            state.copyFrom(scene);
            if (size < HISTORY_LENGTH) {
                size++;
            } else {
                oldest = Math.floorMod(oldest + 1, HISTORY_LENGTH);
            }
        }

        void takeBack(Scene scene) {
            if (size == 0) {
                return;
            }
            Scene state = states[Math.floorMod(oldest + size - 1, HISTORY_LENGTH)];
            if (state == null) {
                return;
            }
            scene.copyFrom(state);
            size--;
        }
    }
}
