import java.util.ArrayList;
import java.util.List;

/**
 * Long runs of calls, drawn from a fixed row of numbers, are answered by the class and by a plain
 * model that is written from the document's words alone; every answer has to be the same.
 */
public final class GlassSpillAgainstModel {
    private static final int NO_SUCH = -1, BAD_VALUE = -2, BAD_TEXT = -3, TOO_MANY = -4, NOT_POSSIBLE = -5, NONE = -6;
    private static final int RUNS = 300, CALLS = 512, METHODS = 21;

    /** What is saved and undone. */
    private static final class State {
        int[] settings = {6, 18, 16, 8, 4, 0};
        int screen = 0x0f0;
        int[] front = new int[48];
        int[] back = new int[48];
        boolean[] glass = new boolean[48];

        State copy() {
            State copy = new State();
            copy.settings = settings.clone();
            copy.screen = screen;
            copy.front = front.clone();
            copy.back = back.clone();
            copy.glass = glass.clone();
            return copy;
        }

        State with(int setting, int value) {
            State copy = copy();
            copy.settings[setting] = value;
            return copy;
        }

        static int[] parts(int colour) {
            return new int[] {colour / 256, colour / 16 % 16, colour % 16};
        }

        static List<Integer> beside(int pixel) {
            List<Integer> found = new ArrayList<>();
            for (int other = 0; other < 48; other++) {
                if (Math.abs(other % 8 - pixel % 8) + Math.abs(other / 8 - pixel / 8) == 1) {
                    found.add(other);
                }
            }
            return found;
        }

        int distance(int pixel) {
            int[] one = parts(front[pixel]);
            int[] two = parts(screen);
            return Math.abs(one[0] - two[0]) + Math.abs(one[1] - two[1]) + Math.abs(one[2] - two[2]);
        }

        int raw(int pixel) {
            int distance = distance(pixel);
            if (distance <= settings[0]) {
                return 0;
            }
            return distance >= settings[1] ? 16 : 16 * (distance - settings[0]) / (settings[1] - settings[0]);
        }

        /** The pixels of which the edge can be come to; they grow from the edge until they grow no more. */
        boolean[] open() {
            boolean[] open = new boolean[48];
            boolean grown = true;
            while (grown) {
                grown = false;
                for (int pixel = 0; pixel < 48; pixel++) {
                    boolean way = beside(pixel).size() < 4;
                    for (int other : beside(pixel)) {
                        way |= open[other];
                    }
                    if (way && !open[pixel] && raw(pixel) < 16) {
                        open[pixel] = true;
                        grown = true;
                    }
                }
            }
            return open;
        }

        int[] opaque() {
            boolean[] open = open();
            int[] opaque = new int[48];
            for (int pixel = 0; pixel < 48; pixel++) {
                opaque[pixel] = settings[5] == 1 && !open[pixel] ? 16 : raw(pixel);
            }
            return opaque;
        }

        int[] kinds() {
            int[] opaque = opaque();
            int[] kinds = new int[48];
            for (int pixel = 0; pixel < 48; pixel++) {
                boolean body = false;
                boolean clear = false;
                for (int other : beside(pixel)) {
                    body |= opaque[other] == 16;
                    clear |= opaque[other] == 0;
                }
                kinds[pixel] = glass[pixel] ? 4 : opaque[pixel] == 0 ? 0 : opaque[pixel] == 16 ? 3 : body && clear ? 2 : 1;
            }
            return kinds;
        }

        int mainPart() {
            int[] parts = parts(screen);
            if (parts[0] >= parts[1] && parts[0] >= parts[2]) {
                return 0;
            }
            return parts[1] >= parts[2] ? 1 : 2;
        }

        int spill(int colour) {
            int[] parts = parts(colour);
            int own = parts[mainPart()];
            parts[mainPart()] = 0;
            return Math.max(0, own - Math.max(parts[0], Math.max(parts[1], parts[2])));
        }

        int[] taken() {
            int[] kinds = kinds();
            int[] shares = {0, settings[2], settings[3], settings[2], settings[4]};
            int[] taken = new int[48];
            for (int pixel = 0; pixel < 48; pixel++) {
                taken[pixel] = spill(front[pixel]) * shares[kinds[pixel]] / 16;
            }
            return taken;
        }

        int[] cleaned() {
            int[] taken = taken();
            int[] cleaned = new int[48];
            for (int pixel = 0; pixel < 48; pixel++) {
                int[] parts = parts(front[pixel]);
                parts[mainPart()] -= taken[pixel];
                cleaned[pixel] = 256 * parts[0] + 16 * parts[1] + parts[2];
            }
            return cleaned;
        }

        int[] composed() {
            int[] opaque = opaque();
            int[] cleaned = cleaned();
            int[] composed = new int[48];
            for (int pixel = 0; pixel < 48; pixel++) {
                int[] one = parts(cleaned[pixel]);
                int[] two = parts(back[pixel]);
                for (int i = 0; i < 3; i++) {
                    composed[pixel] = 16 * composed[pixel] + (one[i] * opaque[pixel] + two[i] * (16 - opaque[pixel])) / 16;
                }
            }
            return composed;
        }

        int marked() {
            int marked = 0;
            for (boolean one : glass) {
                marked += one ? 1 : 0;
            }
            return marked;
        }
    }

    private static int others(int[] one, int[] two) {
        int others = 0;
        for (int i = 0; i < 48; i++) {
            others += one[i] != two[i] ? 1 : 0;
        }
        return others;
    }

    /** The document's methods over a state, a pad, a history and two slots. */
    private static final class Model {
        private State now = new State();
        private String pad = "";
        private final List<State> history = new ArrayList<>();
        private final State[] slots = new State[2];

        private static boolean out(int number, int end) {
            return number < 0 || number >= end;
        }

        private void change() {
            history.add(now.copy());
            if (history.size() > 6) {
                history.remove(0);
            }
        }

        private int settingError(int setting, int value) {
            int[] ends = {46, 46, 17, 17, 17, 2};
            if (out(setting, 6) || out(value, ends[setting])) {
                return BAD_VALUE;
            }
            State then = now.with(setting, value);
            return then.settings[0] < then.settings[1] ? 0 : NOT_POSSIBLE;
        }

        int set(int setting, int value) {
            int error = settingError(setting, value);
            if (error != 0) {
                return error;
            }
            change();
            int previous = now.settings[setting];
            now = now.with(setting, value);
            return previous;
        }

        int screen(int colour) {
            if (out(colour, 4096)) {
                return BAD_VALUE;
            }
            change();
            int previous = now.screen;
            now.screen = colour;
            return previous;
        }

        int paint(boolean isFront, int pixel, int colour) {
            if (out(pixel, 48)) {
                return NO_SUCH;
            }
            int previous = (isFront ? now.front : now.back)[pixel];
            int filled = fill(isFront, pixel, pixel, colour);
            return filled == 1 ? previous : filled;
        }

        int fill(boolean isFront, int pixel, int other, int colour) {
            if (out(pixel, 48) || out(other, 48)) {
                return NO_SUCH;
            }
            if (out(colour, 4096)) {
                return BAD_VALUE;
            }
            change();
            int filled = 0;
            for (int i = 0; i < 48; i++) {
                boolean inColumns = (i % 8 - pixel % 8) * (i % 8 - other % 8) <= 0;
                boolean inRows = (i / 8 - pixel / 8) * (i / 8 - other / 8) <= 0;
                if (inColumns && inRows) {
                    (isFront ? now.front : now.back)[i] = colour;
                    filled++;
                }
            }
            return filled;
        }

        int read(boolean isFront, int row) {
            if (out(row, 6)) {
                return NO_SUCH;
            }
            if (fault() != NONE) {
                return BAD_TEXT;
            }
            change();
            int painted = 0;
            int column = 0;
            while (!pad.isEmpty()) {
                if (pad.charAt(0) == '.') {
                    pad = pad.substring(1);
                } else {
                    (isFront ? now.front : now.back)[8 * row + column] = Integer.parseInt(pad.substring(0, 3), 16);
                    painted++;
                    pad = pad.substring(3);
                }
                column++;
            }
            return painted;
        }

        int mark(int pixel, boolean isGlass) {
            if (out(pixel, 48)) {
                return NO_SUCH;
            }
            if (now.glass[pixel] == isGlass) {
                return NOT_POSSIBLE;
            }
            change();
            now.glass[pixel] = isGlass;
            return now.marked();
        }

        int keep() {
            change();
            int[] composed = now.composed();
            int others = others(composed, now.front);
            now.front = composed;
            now.glass = new boolean[48];
            return others;
        }

        int pixel(int pixel, int what) {
            if (out(pixel, 48)) {
                return NO_SUCH;
            }
            switch (what) {
                case 0: return now.front[pixel];
                case 1: return now.back[pixel];
                case 2: return now.distance(pixel);
                case 3: return now.raw(pixel);
                case 4: return now.opaque()[pixel];
                case 5: return now.kinds()[pixel];
                case 6: return now.spill(now.front[pixel]);
                case 7: return now.taken()[pixel];
                case 8: return now.cleaned()[pixel];
                case 9: return now.composed()[pixel];
                default: return BAD_VALUE;
            }
        }

        int count(int what) {
            if (out(what, 21)) {
                return BAD_VALUE;
            }
            int found = 0;
            for (int i = 0; i < 48; i++) {
                found += what >= 7 && what <= 11 && now.kinds()[i] == what - 7 ? 1 : 0;
                found += what == 12 ? now.opaque()[i] : 0;
                found += what == 13 ? now.spill(now.front[i]) : 0;
                found += what == 14 ? now.taken()[i] : 0;
                found += what == 15 && now.settings[5] == 1 && now.raw(i) < 16 && !now.open()[i] ? 1 : 0;
            }
            switch (what) {
                case 6: return now.screen;
                case 16: return 48 - others(now.composed(), now.back);
                case 17: return 48 - others(now.composed(), now.front);
                case 18: return now.marked();
                case 19: return pad.length();
                case 20: return history.size();
                default: return what < 6 ? now.settings[what] : found;
            }
        }

        int row(int row, int kind) {
            if (out(row, 6)) {
                return NO_SUCH;
            }
            if (out(kind, 5)) {
                return BAD_VALUE;
            }
            int mask = 0;
            for (int i = 7; i >= 0; i--) {
                mask = 2 * mask + (now.kinds()[8 * row + i] == kind ? 1 : 0);
            }
            return mask;
        }

        int bestScreen(int what) {
            if (out(what, 2)) {
                return BAD_VALUE;
            }
            int[] clear = new int[48];
            int best = 0;
            for (int i = 0; i < 48; i++) {
                State then = now.copy();
                then.screen = now.front[i];
                for (int kind : then.kinds()) {
                    clear[i] += kind == 0 ? 1 : 0;
                }
                best = clear[i] > clear[best] ? i : best;
            }
            return what == 0 ? best : clear[best];
        }

        int leastNear(int pixel) {
            if (out(pixel, 48)) {
                return NO_SUCH;
            }
            for (int near = 0; near < now.settings[1]; near++) {
                if (now.distance(pixel) <= near) {
                    return near;
                }
            }
            return NONE;
        }

        int ifSet(int setting, int value) {
            int error = settingError(setting, value);
            return error != 0 ? error : others(now.composed(), now.with(setting, value).composed());
        }

        int bestShare(int setting, int what) {
            if (out(setting - 2, 3) || out(what, 2)) {
                return BAD_VALUE;
            }
            int[] spill = new int[17];
            int best = 0;
            for (int share = 0; share <= 16; share++) {
                for (int colour : now.with(setting, share).composed()) {
                    spill[share] += now.spill(colour);
                }
                best = spill[share] < spill[best] ? share : best;
            }
            return what == 0 ? best : spill[best];
        }

        int put(long characters) {
            StringBuilder text = new StringBuilder();
            boolean ended = false;
            for (int shift = 0; shift < 64; shift += 8) {
                int code = (int) (characters >> shift & 255);
                if (code != 0 && (ended || code < 33 || code > 126)) {
                    return BAD_VALUE;
                }
                if (code == 0) {
                    ended = true;
                } else {
                    text.insert(0, (char) code);
                }
            }
            if (text.length() == 0) {
                return BAD_VALUE;
            }
            if (pad.length() + text.length() > 48) {
                return TOO_MANY;
            }
            pad += text;
            return pad.length();
        }

        int wipe() {
            int length = pad.length();
            pad = "";
            return length;
        }

        /** The first character with which the text up to it begins no good text. */
        int fault() {
            for (int end = 1; end <= pad.length(); end++) {
                if (!pad.substring(0, end).matches("(\\.|[0-9a-f]{3}){0,7}(\\.|[0-9a-f]{1,3})")) {
                    return end - 1;
                }
            }
            return pad.matches("(\\.|[0-9a-f]{3}){1,8}") ? NONE : pad.length();
        }

        int undo() {
            if (history.isEmpty()) {
                return NOT_POSSIBLE;
            }
            now = history.remove(history.size() - 1);
            return history.size();
        }

        int save(int slot) {
            if (out(slot, 2)) {
                return BAD_VALUE;
            }
            slots[slot] = now.copy();
            return now.marked();
        }

        int restore(int slot) {
            if (out(slot, 2)) {
                return BAD_VALUE;
            }
            if (slots[slot] == null) {
                return NOT_POSSIBLE;
            }
            change();
            now = slots[slot].copy();
            return now.marked();
        }
    }

    // ---- what is called

    private static long seed;

    private static int draw(int end) {
        seed = seed * 6364136223846793005L + 1442695040888963407L;
        return (int) Long.remainderUnsigned(seed >>> 24, end);
    }

    /** Mostly a number in its range, seldom one at its edge or far off. */
    private static int number(int end) {
        int[] edges = {-1, end, end + 1, Integer.MIN_VALUE, Integer.MAX_VALUE};
        return draw(24) == 0 ? edges[draw(edges.length)] : draw(end);
    }

    /** Colours of which many are near the screens that are drawn, or have spill. */
    private static int colour() {
        int[] some = {0x0f0, 0x060, 0x070, 0x3c4, 0x8f8, 0xf00, 0x00f, 0xfff, 0x000, 0x0e1, 0x2d2, 0x5b3};
        int near = 256 * draw(7) + 16 * (9 + draw(7)) + draw(7);
        int which = draw(5);
        return which == 0 ? number(4096) : which == 1 ? near : some[draw(some.length)];
    }

    private static long characters() {
        String signs = draw(30) == 0 ? "gA./:`~!" : "0123456789abcdef...";
        long number = 0;
        int length = draw(40) == 0 ? 0 : 1 + draw(8);
        for (int i = 0; i < length; i++) {
            number = number << 8 | signs.charAt(draw(signs.length()));
        }
        boolean isBad = draw(20) == 0;
        return isBad ? number ^ 1L << draw(64) : number;
    }

    /** Three whole colours at most, so that often a whole row stands on the pad. */
    private static long colours() {
        StringBuilder text = new StringBuilder();
        while (text.length() <= 5) {
            text.append(draw(3) == 0 ? "." : String.format("%03x", Math.floorMod(colour(), 4096)));
        }
        long number = 0;
        for (int i = 0; i < text.length(); i++) {
            number = number << 8 | text.charAt(i);
        }
        return number;
    }

    private static int setting(int setting) {
        int[] ends = {20, 46, 17, 17, 17, 2};
        return number(setting < 0 || setting > 5 ? 3 : ends[setting]);
    }

    private static boolean isSame(int run, int call, String name, long got, long want) {
        if (got != want) {
            System.out.println("run " + run + ", call " + call + ": " + name + " answered " + got + ", due is " + want);
        }
        return got == want;
    }

    private static boolean isSameCall(int run, int call, GlassSpill x, Model m) {
        int method = draw(METHODS + 9);
        boolean flag = draw(4) != 0;
        int a = number(48);
        int b = number(48);
        int colour = colour();
        int setting = number(6);
        int value = setting(setting);
        switch (method) {
            case 0: return isSame(run, call, "set", x.set(setting, value), m.set(setting, value));
            case 1: return isSame(run, call, "screen", x.screen(colour), m.screen(colour));
            case 2: return isSame(run, call, "fill", x.fill(flag, a, b, colour), m.fill(flag, a, b, colour));
            case 3: return isSame(run, call, "read", x.read(flag, a % 7), m.read(flag, a % 7));
            case 4: return isSame(run, call, "mark", x.mark(a, flag), m.mark(a, flag));
            case 5: return draw(4) != 0 || isSame(run, call, "keep", x.keep(), m.keep());
            case 6: return isSame(run, call, "bestScreen", x.bestScreen(a % 3), m.bestScreen(a % 3));
            case 7: return isSame(run, call, "leastNear", x.leastNear(a), m.leastNear(a));
            case 8: return isSame(run, call, "ifSet", x.ifSet(setting, value), m.ifSet(setting, value));
            case 9: return isSame(run, call, "bestShare", x.bestShare(setting, a % 3), m.bestShare(setting, a % 3));
            case 10: return isSame(run, call, "wipe", x.wipe(), m.wipe());
            case 11: return isSame(run, call, "fault", x.fault(), m.fault());
            case 12: return isSame(run, call, "undo", x.undo(), m.undo());
            case 13: return isSame(run, call, "save", x.save(a % 3), m.save(a % 3));
            case 14: return isSame(run, call, "restore", x.restore(a % 3), m.restore(a % 3));
            case 15: return isSame(run, call, "row", x.row(a % 7, b % 6), m.row(a % 7, b % 6));
            default: return isSameOfOften(run, call, x, m, method);
        }
    }

    /** The methods that are called more often than the others. */
    private static boolean isSameOfOften(int run, int call, GlassSpill x, Model m, int method) {
        boolean flag = draw(4) != 0;
        int a = number(48);
        int colour = colour();
        int number = number(21);
        long characters = draw(3) == 0 ? characters() : colours();
        switch (method % 7) {
            case 0: return isSame(run, call, "put", x.put(characters), m.put(characters));
            case 1:
            case 2: return isSame(run, call, "count(" + number + ")", x.count(number), m.count(number));
            case 3:
            case 4: return isSame(run, call, "paint", x.paint(flag, a, colour), m.paint(flag, a, colour));
            default:
                int what = number > 10 ? number - 10 : number;
                return isSame(run, call, "pixel(" + a + ", " + what + ")", x.pixel(a, what), m.pixel(a, what));
        }
    }

    private static void paintAll(GlassSpill x, Model m) {
        for (int pixel = 0; pixel < 48; pixel++) {
            int front = Math.floorMod(colour(), 4096);
            int back = draw(4096);
            x.paint(true, pixel, front);
            m.paint(true, pixel, front);
            x.paint(false, pixel, back);
            m.paint(false, pixel, back);
        }
    }

    public static void main(String[] args) {
        int wrong = 0;
        for (int run = 0; run < RUNS; run++) {
            seed = run;
            GlassSpill x = new GlassSpill();
            Model m = new Model();
            int call = 0;
            if (run % 3 != 0) {
                paintAll(x, m);
                call = 96;
            }
            boolean isSame = true;
            for (; call < CALLS && isSame; call++) {
                isSame = isSameCall(run, call, x, m);
            }
            wrong += isSame ? 0 : 1;
        }
        System.out.println(wrong == 0 ? "all runs are the same as the model's" : wrong + " runs are other than the model's");
        if (wrong != 0) {
            System.exit(1);
        }
    }
}
