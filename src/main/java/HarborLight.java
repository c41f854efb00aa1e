/**
 * A harbor light, as ../shared/DOC.md promises it. Arguments are checked here, so that the classes inside, which hold
 * the parts of the light, can do their work without refusing any.
 */
public final class HarborLight {
    public static final int INVALID_ARGUMENT = -1;
    public static final int NOT_POSSIBLE = -2;
    public static final int LIMIT_REACHED = -3;
    public static final int NOT_FOUND = -4;

    private static final int FARTHEST = 10000;
    private static final int LAST_TICK = 1000000;
    private static final int IDLE_SEARCH = 20000;
    private static final int MOST_ADVANCE = 2000;
    private static final int MOST_PASS = 500;
    private static final int NONE = -1;

    private final State now = new State();
    private final State stored = new State();
    // calls that only tell what would be work on this copy, so that nothing else changes
    private final State trial = new State();
    private final History history = new History();
    private final Text text = new Text();
    private boolean isStored;

    public HarborLight() {
    }

    // ---- sectors

    public int paint(int color, int from, int to) {
        if (isOutside(color, 0, 3) || isOutside(from, 0, 63) || isOutside(to, 0, 63)) {
            return INVALID_ARGUMENT;
        }
        history.keep(now);
        return now.circle.give(color, from, to);
    }

    public int color(int direction) {
        if (isOutside(direction, 0, 63)) {
            return INVALID_ARGUMENT;
        }
        return now.circle.colorAt(direction);
    }

    public int sector(int sector, int what) {
        if (sector < 0 || isOutside(what, 0, 2)) {
            return INVALID_ARGUMENT;
        }
        int begin = now.circle.beginOf(sector);
        if (begin == NONE) {
            return NOT_FOUND;
        }
        if (what == 0) {
            return begin;
        }
        return what == 1 ? now.circle.lengthFrom(begin) : now.circle.colorAt(begin);
    }

    public int direction(int x, int y) {
        if (isFar(x) || isFar(y)) {
            return INVALID_ARGUMENT;
        }
        return Compass.between(x, y);
    }

    public int again(int x, int y) {
        if (isFar(x) || isFar(y)) {
            return INVALID_ARGUMENT;
        }
        return Compass.byQuarter(x, y);
    }

    // ---- the code

    public int setCode(int light, int dark, int isNew) {
        if (isOutside(light, 1, 60) || isOutside(dark, 0, 60) || isOutside(isNew, 0, 1)) {
            return INVALID_ARGUMENT;
        }
        if (isNew == 0 && now.flash.isFull()) {
            return LIMIT_REACHED;
        }
        history.keep(now);
        if (isNew == 1) {
            now.flash.drop();
        }
        now.flash.append(light, dark);
        return now.flash.period();
    }

    public int code(int what) {
        switch (what) {
            case 0: return now.flash.parts();
            case 1: return now.flash.period();
            case 2: return now.flash.lightTicks();
            case 3: return now.flash.kind();
            case 4: return now.flash.isLitAt(now.tick) ? 1 : 0;
            default: return INVALID_ARGUMENT;
        }
    }

    public long shareBits() {
        return Bits.ofDouble(now.flash.share());
    }

    public int next(int lit) {
        if (isOutside(lit, 0, 1)) {
            return INVALID_ARGUMENT;
        }
        int period = now.flash.period();
        for (int i = 0; i < period; i++) {
            if (now.flash.isLitAt(now.tick + i) == (lit == 1)) {
                return now.tick + i;
            }
        }
        return NOT_FOUND;
    }

    // ---- lamps

    public int setChanger(int kind) {
        if (isOutside(kind, 0, 1)) {
            return INVALID_ARGUMENT;
        }
        history.keep(now);
        int lamps = now.changer.lamps();
        now.changer.renew(kind);
        return lamps;
    }

    public int addLamp(int kind, int intensity, int life) {
        if (isOutside(kind, 0, 1) || isOutside(intensity, 1, 2000) || isOutside(life, 1, 5000)) {
            return INVALID_ARGUMENT;
        }
        if (kind != now.changer.kind) {
            return NOT_POSSIBLE;
        }
        int place = now.changer.lowestEmpty();
        if (place == NONE) {
            return LIMIT_REACHED;
        }
        history.keep(now);
        now.changer.insert(place, intensity, life);
        return place;
    }

    public int takeLamp(int place) {
        if (isOutside(place, 0, 5)) {
            return INVALID_ARGUMENT;
        }
        if (!now.changer.hasLamp(place)) {
            return NOT_FOUND;
        }
        history.keep(now);
        int use = now.changer.useOf(place);
        now.changer.insert(place, 0, 0);
        return use;
    }

    public int lamp(int place, int what) {
        if (isOutside(place, 0, 5) || isOutside(what, 0, 5)) {
            return INVALID_ARGUMENT;
        }
        if (!now.changer.hasLamp(place)) {
            return NOT_FOUND;
        }
        switch (what) {
            case 0: return now.changer.kind;
            case 1: return now.changer.intensityOf(place);
            case 2: return now.changer.lifeOf(place);
            case 3: return now.changer.useOf(place);
            case 4: return now.changer.brightnessOf(place);
            default: return now.changer.canBurn(place) ? 0 : 1;
        }
    }

    public int set(int what, int value) {
        if (what == 0 && !isOutside(value, 0, 50)) {
            history.keep(now);
            int previous = now.changer.change;
            now.changer.change = value;
            return previous;
        }
        if (what == 1 && !isOutside(value, 1, 100)) {
            history.keep(now);
            int previous = now.clear;
            now.clear = value;
            return previous;
        }
        return INVALID_ARGUMENT;
    }

    public int rangeBits(int color) {
        if (isOutside(color, 0, 3)) {
            return INVALID_ARGUMENT;
        }
        return Bits.ofFloat(now.rangeOf(color));
    }

    // ---- time

    public int advance(int ticks) {
        if (isOutside(ticks, 1, MOST_ADVANCE)) {
            return INVALID_ARGUMENT;
        }
        if (ticks > LAST_TICK - now.tick) {
            return LIMIT_REACHED;
        }
        history.keep(now);
        int lit = 0;
        for (int i = 0; i < ticks; i++) {
            if (now.goOn() == State.LIT) {
                lit++;
            }
        }
        return lit;
    }

    public int account(int what) {
        switch (what) {
            case 0: return now.tick;
            case 1: return now.ticksOf(State.LIT);
            case 2: return now.ticksOf(State.UNLIT);
            case 3: return now.ticksOf(State.CHANGE);
            case 4: return now.ticksOf(State.IDLE);
            case 5: return now.changesBegun;
            case 6: return now.log.passages;
            case 7: return now.log.entries;
            default: return INVALID_ARGUMENT;
        }
    }

    public int count(int what) {
        switch (what) {
            case 0: return now.circle.sectors();
            case 1: return now.changer.lamps();
            case 2: return now.changer.goodLamps();
            case 3: return now.changer.present;
            case 4: return now.changer.changeLeft;
            case 5: return now.changer.kind;
            case 6: return now.changer.change;
            case 7: return now.clear;
            case 8: return now.log.kept();
            case 9: return history.states;
            case 10: return text.length;
            case 11: return isStored ? 1 : 0;
            default: return INVALID_ARGUMENT;
        }
    }

    public int untilIdle() {
        trial.become(now);
        for (int i = 0; i < IDLE_SEARCH; i++) {
            if (trial.goOn() == State.IDLE) {
                return i;
            }
        }
        return NOT_FOUND;
    }

    // ---- ships

    public int sees(int x, int y) {
        if (isFar(x) || isFar(y)) {
            return INVALID_ARGUMENT;
        }
        if (x == 0 && y == 0) {
            return NOT_POSSIBLE;
        }
        trial.become(now);
        int kind = trial.goOn();
        return trial.shownAt(x, y, kind);
    }

    public int pass(int x, int y, int toX, int toY, int ticks) {
        if (isFar(x) || isFar(y) || isFar(toX) || isFar(toY) || isOutside(ticks, 1, MOST_PASS)) {
            return INVALID_ARGUMENT;
        }
        if (ticks > LAST_TICK - now.tick) {
            return LIMIT_REACHED;
        }
        history.keep(now);
        now.log.beginPassage();
        int before = now.log.entries;
        int last = NONE;
        for (int i = 0; i < ticks; i++) {
            int shipX = x + Math.floorDiv((toX - x) * i, ticks);
            int shipY = y + Math.floorDiv((toY - y) * i, ticks);
            last = now.goOnWithShip(shipX, shipY, last);
        }
        return now.log.entries - before;
    }

    public int entry(int index, int what) {
        if (index < 0 || isOutside(what, 0, 3)) {
            return INVALID_ARGUMENT;
        }
        if (index >= now.log.kept()) {
            return NOT_FOUND;
        }
        return now.log.valueOf(index, what);
    }

    public int seen(int color) {
        if (isOutside(color, 0, 3)) {
            return INVALID_ARGUMENT;
        }
        if (now.log.passages == 0) {
            return NOT_POSSIBLE;
        }
        return now.log.shownTicks(color);
    }

    // ---- stored state, undo

    public int store() {
        stored.become(now);
        isStored = true;
        return now.tick;
    }

    public int recall() {
        if (!isStored) {
            return NOT_POSSIBLE;
        }
        history.keep(now);
        now.become(stored);
        return now.tick;
    }

    public int compare(int what) {
        if (isOutside(what, 0, 3)) {
            return INVALID_ARGUMENT;
        }
        if (!isStored) {
            return NOT_POSSIBLE;
        }
        switch (what) {
            case 0: return now.circle.differences(stored.circle);
            case 1: return now.flash.isLike(stored.flash) ? 0 : 1;
            case 2: return now.changer.differences(stored.changer);
            default: return now.tick - stored.tick + LAST_TICK;
        }
    }

    public int undo() {
        if (history.states == 0) {
            return NOT_POSSIBLE;
        }
        history.giveBack(now);
        return history.states;
    }

    // ---- texts

    public int type(int character) {
        if (isOutside(character, 32, 126)) {
            return INVALID_ARGUMENT;
        }
        if (text.isFull()) {
            return LIMIT_REACHED;
        }
        text.append((char) character);
        return text.length;
    }

    public int clearText() {
        int length = text.length;
        text.length = 0;
        return length;
    }

    public int fault(int what) {
        if (isOutside(what, 0, 1)) {
            return INVALID_ARGUMENT;
        }
        trial.become(now);
        if (text.carryOut(trial)) {
            return NOT_FOUND;
        }
        return what == 0 ? text.faultIndex : text.faultReason;
    }

    public int load() {
        trial.become(now);
        if (!text.carryOut(trial)) {
            return NOT_POSSIBLE;
        }
        history.keep(now);
        now.become(trial);
        return text.items;
    }

    private static boolean isOutside(int value, int least, int most) {
        return value < least || value > most;
    }

    private static boolean isFar(int coordinate) {
        return isOutside(coordinate, -FARTHEST, FARTHEST);
    }

    private static final class Compass {
        static final int POINTS = 64;
        static final int QUARTER = 16;
        // s(0) to s(16) are enough: the other values are these again, or their negatives
        private static final int[] SINES = {
            0, 98, 195, 290, 383, 471, 556, 634, 707, 773, 831, 882, 924, 957, 981, 995, 1000
        };

        static int east(int point) {
            int turned = point & (POINTS - 1);
            boolean isWest = turned >= 2 * QUARTER;
            int half = isWest ? turned - 2 * QUARTER : turned;
            int index = half > QUARTER ? 2 * QUARTER - half : half;
            if (index < 0 || index >= SINES.length) {
                return 0;
            }
            return isWest ? -SINES[index] : SINES[index];
        }

        static int north(int point) {
            return east(point + QUARTER);
        }

        static int between(int x, int y) {
            for (int k = 0; k < POINTS; k++) {
                if (x * north(k) - y * east(k) >= 0 && x * north(k + 1) - y * east(k + 1) < 0) {
                    return k;
                }
            }
            return NOT_FOUND;
        }

        static int byQuarter(int x, int y) {
            if (x >= 0 && y > 0) {
                return greatestPoint(x, y);
            }
            if (x > 0) {
                return QUARTER + greatestPoint(-y, x);
            }
            if (y < 0) {
                return 2 * QUARTER + greatestPoint(-x, -y);
            }
            return x < 0 ? 3 * QUARTER + greatestPoint(y, -x) : NOT_FOUND;
        }

        private static int greatestPoint(int x, int y) {
            for (int k = QUARTER - 1; k > 0; k--) {
                if (x * north(k) >= y * east(k)) {
                    return k;
                }
            }
            return 0;
        }
    }

    private static final class Circle {
        private static final int WHITE = 1;
        private final int[] colors = new int[Compass.POINTS];

        Circle() {
            for (int k = 0; k < colors.length; k++) {
                colors[k] = WHITE;
            }
        }

        void become(Circle other) {
            System.arraycopy(other.colors, 0, colors, 0, colors.length);
        }

        int colorAt(int direction) {
            int k = direction & (Compass.POINTS - 1);
            return k < colors.length ? colors[k] : 0;
        }

        int give(int color, int from, int to) {
            int steps = (to - from) & (Compass.POINTS - 1);
            int changed = 0;
            for (int i = 0; i <= steps; i++) {
                int k = (from + i) & (Compass.POINTS - 1);
                if (k < colors.length && colors[k] != color) {
                    colors[k] = color;
                    changed++;
                }
            }
            return changed;
        }

        int sectors() {
            int begins = 0;
            for (int k = 0; k < Compass.POINTS; k++) {
                if (isBegin(k)) {
                    begins++;
                }
            }
            return begins == 0 ? 1 : begins;
        }

        int beginOf(int sector) {
            int begins = 0;
            for (int k = 0; k < Compass.POINTS; k++) {
                if (isBegin(k)) {
                    if (begins == sector) {
                        return k;
                    }
                    begins++;
                }
            }
            return begins == 0 && sector == 0 ? 0 : NONE;
        }

        int lengthFrom(int begin) {
            int length = 1;
            while (length < Compass.POINTS && colorAt(begin + length) == colorAt(begin)) {
                length++;
            }
            return length;
        }

        int differences(Circle other) {
            int different = 0;
            for (int k = 0; k < Compass.POINTS; k++) {
                if (colorAt(k) != other.colorAt(k)) {
                    different++;
                }
            }
            return different;
        }

        private boolean isBegin(int k) {
            return colorAt(k) != colorAt(k - 1);
        }
    }

    private static final class FlashCode {
        static final int MOST_PARTS = 8;
        private static final int FIXED = 0;
        private static final int ISOPHASE = 1;
        private static final int FLASHING = 2;
        private static final int OCCULTING = 3;
        private final int[] lights = new int[MOST_PARTS];
        private final int[] darks = new int[MOST_PARTS];
        private int parts;
        private int allLight;
        private int allDark;

        FlashCode() {
            lights[0] = 2;
            darks[0] = 2;
            parts = 1;
            allLight = 2;
            allDark = 2;
        }

        void become(FlashCode other) {
            System.arraycopy(other.lights, 0, lights, 0, lights.length);
            System.arraycopy(other.darks, 0, darks, 0, darks.length);
            parts = other.parts;
            allLight = other.allLight;
            allDark = other.allDark;
        }

        int parts() {
            return parts;
        }

        boolean isFull() {
            return parts >= MOST_PARTS;
        }

        // only ahead of append, as a code without parts has no period
        void drop() {
            parts = 0;
            allLight = 0;
            allDark = 0;
        }

        void append(int light, int dark) {
            if (parts < 0 || parts >= lights.length || parts >= darks.length) {
                return;
            }
            lights[parts] = light;
            darks[parts] = dark;
            parts++;
            allLight += light;
            allDark += dark;
        }

        int period() {
            return allLight + allDark;
        }

        int lightTicks() {
            return allLight;
        }

        double share() {
            return period() == 0 ? 0.0 : (double) allLight / (double) period();
        }

        int kind() {
            if (allDark == 0) {
                return FIXED;
            }
            if (parts == 1 && allLight == allDark) {
                return ISOPHASE;
            }
            return allDark > allLight ? FLASHING : OCCULTING;
        }

        boolean isLitAt(int tick) {
            int period = period();
            if (period < 1) {
                return false;
            }
            int rest = tick % period;
            for (int i = 0; i < parts && i < lights.length && i < darks.length; i++) {
                if (rest < lights[i]) {
                    return true;
                }
                rest -= lights[i] + darks[i];
                if (rest < 0) {
                    return false;
                }
            }
            return false;
        }

        boolean isLike(FlashCode other) {
            if (parts != other.parts) {
                return false;
            }
            for (int i = 0; i < parts && i < MOST_PARTS; i++) {
                if (lights[i] != other.lights[i] || darks[i] != other.darks[i]) {
                    return false;
                }
            }
            return true;
        }
    }

    /**
     * The lamps need no kinds of their own, as none that does not fit the changer gets in. An empty place has the
     * life 0, which no lamp has, so that a place is empty and filled again without a new object.
     */
    private static final class Changer {
        static final int BURNERS = 1;
        static final int PLACES = 6;
        private static final int USUAL_CHANGE = 3;
        private final int[] intensities = new int[PLACES];
        private final int[] lives = new int[PLACES];
        private final int[] uses = new int[PLACES];
        private int kind;
        private int present;
        private int change = USUAL_CHANGE;
        private int changeLeft;

        void become(Changer other) {
            System.arraycopy(other.intensities, 0, intensities, 0, PLACES);
            System.arraycopy(other.lives, 0, lives, 0, PLACES);
            System.arraycopy(other.uses, 0, uses, 0, PLACES);
            kind = other.kind;
            present = other.present;
            change = other.change;
            changeLeft = other.changeLeft;
        }

        void renew(int newKind) {
            for (int place = 0; place < PLACES; place++) {
                insert(place, 0, 0);
            }
            kind = newKind;
            present = 0;
            changeLeft = 0;
        }

        void insert(int place, int intensity, int life) {
            if (isPlace(place)) {
                intensities[place] = intensity;
                lives[place] = life;
                uses[place] = 0;
            }
        }

        boolean hasLamp(int place) {
            return isPlace(place) && lives[place] > 0;
        }

        int intensityOf(int place) {
            return isPlace(place) ? intensities[place] : 0;
        }

        int lifeOf(int place) {
            return isPlace(place) ? lives[place] : 0;
        }

        int useOf(int place) {
            return isPlace(place) ? uses[place] : 0;
        }

        int brightnessOf(int place) {
            if (!isPlace(place) || lives[place] < 1) {
                return 0;
            }
            int intensity = intensities[place];
            return intensity - intensity * uses[place] / (2 * lives[place]);
        }

        int lamps() {
            int lamps = 0;
            for (int place = 0; place < PLACES; place++) {
                if (hasLamp(place)) {
                    lamps++;
                }
            }
            return lamps;
        }

        int goodLamps() {
            int good = 0;
            for (int place = 0; place < PLACES; place++) {
                if (canBurn(place)) {
                    good++;
                }
            }
            return good;
        }

        int lowestEmpty() {
            for (int place = 0; place < PLACES; place++) {
                if (!hasLamp(place)) {
                    return place;
                }
            }
            return NONE;
        }

        boolean beginsChange() {
            if (changeLeft > 0 || canBurn(present)) {
                return false;
            }
            for (int i = 1; i < PLACES; i++) {
                int place = (present + i) % PLACES;
                if (canBurn(place)) {
                    present = place;
                    changeLeft = change;
                    return true;
                }
            }
            return false;
        }

        int spend(int tick, boolean isLitByCode) {
            if (changeLeft > 0) {
                changeLeft--;
                return State.CHANGE;
            }
            if (!isPlace(present) || !canBurn(present)) {
                return State.IDLE;
            }
            if (isLitByCode) {
                uses[present]++;
                return State.LIT;
            }
            if (kind == BURNERS && tick % 4 == 0) {
                uses[present]++;
            }
            return State.UNLIT;
        }

        int differences(Changer other) {
            int different = 0;
            for (int place = 0; place < PLACES; place++) {
                if (!isLike(other, place)) {
                    different++;
                }
            }
            return different;
        }

        private boolean isLike(Changer other, int place) {
            if (!hasLamp(place) || !other.hasLamp(place)) {
                return hasLamp(place) == other.hasLamp(place);
            }
            return kind == other.kind && intensityOf(place) == other.intensityOf(place)
                && lifeOf(place) == other.lifeOf(place) && useOf(place) == other.useOf(place);
        }

        // an empty place has no use and no life, so this needs no test of its own for it
        boolean canBurn(int place) {
            return isPlace(place) && uses[place] < lives[place];
        }

        private static boolean isPlace(int place) {
            return place >= 0 && place < PLACES;
        }
    }

    private static final class Log {
        private static final int MOST_KEPT = 40;
        private static final int COLORS = 4;
        private final int[] ticks = new int[MOST_KEPT];
        private final int[] colors = new int[MOST_KEPT];
        private final int[] directions = new int[MOST_KEPT];
        private final int[] numbers = new int[MOST_KEPT];
        private final int[] shown = new int[COLORS];
        private int passages;
        private int entries;

        void become(Log other) {
            System.arraycopy(other.ticks, 0, ticks, 0, MOST_KEPT);
            System.arraycopy(other.colors, 0, colors, 0, MOST_KEPT);
            System.arraycopy(other.directions, 0, directions, 0, MOST_KEPT);
            System.arraycopy(other.numbers, 0, numbers, 0, MOST_KEPT);
            System.arraycopy(other.shown, 0, shown, 0, COLORS);
            passages = other.passages;
            entries = other.entries;
        }

        void beginPassage() {
            passages++;
            for (int color = 0; color < COLORS; color++) {
                shown[color] = 0;
            }
        }

        void addShown(int color) {
            if (color >= 0 && color < COLORS) {
                shown[color]++;
            }
        }

        int shownTicks(int color) {
            return color >= 0 && color < COLORS ? shown[color] : 0;
        }

        // the rows are used in turn, so that the oldest entry gives way without the others being moved
        void add(int tick, int color, int direction) {
            int row = entries % MOST_KEPT;
            if (row < 0) {
                return;
            }
            ticks[row] = tick;
            colors[row] = color;
            directions[row] = direction;
            numbers[row] = passages - 1;
            entries++;
        }

        int kept() {
            return entries < MOST_KEPT ? entries : MOST_KEPT;
        }

        int valueOf(int index, int what) {
            int row = (entries - 1 - index) % MOST_KEPT;
            if (row < 0) {
                return NOT_FOUND;
            }
            switch (what) {
                case 0: return ticks[row];
                case 1: return colors[row];
                case 2: return directions[row];
                default: return numbers[row];
            }
        }
    }

    /** All that is recorded, stored and tried stands in one class, so that no copy of it can miss a part. */
    private static final class State {
        static final int LIT = 0;
        static final int UNLIT = 1;
        static final int CHANGE = 2;
        static final int IDLE = 3;
        private static final int KINDS = 4;
        private static final int USUAL_CLEAR = 50;
        private final Circle circle = new Circle();
        private final FlashCode flash = new FlashCode();
        private final Changer changer = new Changer();
        private final Log log = new Log();
        private final int[] spent = new int[KINDS];
        private int tick;
        private int clear = USUAL_CLEAR;
        private int changesBegun;

        void become(State other) {
            circle.become(other.circle);
            flash.become(other.flash);
            changer.become(other.changer);
            log.become(other.log);
            System.arraycopy(other.spent, 0, spent, 0, KINDS);
            tick = other.tick;
            clear = other.clear;
            changesBegun = other.changesBegun;
        }

        int ticksOf(int kind) {
            return kind >= 0 && kind < KINDS ? spent[kind] : 0;
        }

        int goOn() {
            if (changer.beginsChange()) {
                changesBegun++;
            }
            int kind = changer.spend(tick, flash.isLitAt(tick));
            if (kind >= 0 && kind < KINDS) {
                spent[kind]++;
            }
            tick++;
            return kind;
        }

        int goOnWithShip(int x, int y, int lastColor) {
            int kind = goOn();
            int color = shownAt(x, y, kind);
            log.addShown(color);
            if (color != lastColor) {
                log.add(tick - 1, color, Compass.byQuarter(x, y));
            }
            return color;
        }

        // only behind goOn, as what a ship sees depends on the use at the end of the tick
        int shownAt(int x, int y, int kind) {
            if (kind != LIT || (x == 0 && y == 0)) {
                return 0;
            }
            int color = circle.colorAt(Compass.byQuarter(x, y));
            return isInRange(x, y, color) ? color : 0;
        }

        float rangeOf(int color) {
            int brightness = changer.brightnessOf(changer.present);
            return (float) brightness * (float) percentOf(color) / 100.0f * (float) clear / 50.0f;
        }

        private boolean isInRange(int x, int y, int color) {
            float range = rangeOf(color);
            return (double) (x * x + y * y) <= (double) range * (double) range;
        }

        private static int percentOf(int color) {
            switch (color) {
                case 1: return 100;
                case 2: return 40;
                case 3: return 55;
                default: return 0;
            }
        }
    }

    /** The rows are made once and used in turn, as all calls of a run have one room. */
    private static final class History {
        private static final int MOST_STATES = 5;
        private final State[] rows = new State[MOST_STATES];
        private int states;
        private int end;

        History() {
            for (int i = 0; i < rows.length; i++) {
                rows[i] = new State();
            }
        }

        void keep(State state) {
            if (end < 0 || end >= rows.length || rows[end] == null) {
                return;
            }
            rows[end].become(state);
            end = end + 1 < rows.length ? end + 1 : 0;
            if (states < MOST_STATES) {
                states++;
            }
        }

        void giveBack(State state) {
            int latest = end > 0 ? end - 1 : rows.length - 1;
            if (states < 1 || latest < 0 || latest >= rows.length || rows[latest] == null) {
                return;
            }
            state.become(rows[latest]);
            end = latest;
            states--;
        }
    }

    private static final class Text {
        private static final int MOST_SIGNS = 120;
        private static final int MOST_DIGITS = 4;
        private static final int MOST_NUMBERS = 2 * FlashCode.MOST_PARTS;
        private static final int NO_FAULT = 0;
        private static final int WRONG_WORD = 1;
        private static final int NUMBER_MISSING = 2;
        private static final int OUT_OF_RANGE = 3;
        private static final int LAMP_UNFIT = 4;
        private static final int NO_ROOM = 5;
        private static final int END_MISSING = 6;
        private final char[] signs = new char[MOST_SIGNS];
        private final int[] numbers = new int[MOST_NUMBERS];
        private int length;
        private int at;
        private int items;
        private int faultIndex;
        private int faultReason;

        boolean isFull() {
            return length >= MOST_SIGNS;
        }

        void append(char sign) {
            if (length >= 0 && length < MOST_SIGNS) {
                signs[length] = sign;
                length++;
            }
        }

        boolean carryOut(State state) {
            at = 0;
            items = 0;
            // an item that is possible takes at least its ";", so there are never more than signs
            for (int i = 0; i < MOST_SIGNS && at < length; i++) {
                faultIndex = at;
                faultReason = carryOutItem(state);
                if (faultReason != NO_FAULT) {
                    return false;
                }
                items++;
            }
            return true;
        }

        private int carryOutItem(State state) {
            int begin = at;
            skipLetters();
            if (isWord(begin, "sector")) {
                return carryOutSector(state);
            }
            if (isWord(begin, "code")) {
                return carryOutCode(state);
            }
            if (isWord(begin, "changer")) {
                return carryOutChanger(state);
            }
            if (isWord(begin, "lamp")) {
                return carryOutLamp(state);
            }
            if (isWord(begin, "clear")) {
                return carryOutClear(state);
            }
            return isWord(begin, "change") ? carryOutChange(state) : WRONG_WORD;
        }

        private int carryOutSector(State state) {
            int color = readColor();
            if (color == NONE) {
                return WRONG_WORD;
            }
            int from = readNumber();
            int to = readNumber();
            if (from == NONE || to == NONE) {
                return NUMBER_MISSING;
            }
            if (from >= Compass.POINTS || to >= Compass.POINTS) {
                return OUT_OF_RANGE;
            }
            if (!skips(';')) {
                return END_MISSING;
            }
            state.circle.give(color, from, to);
            return NO_FAULT;
        }

        private int carryOutCode(State state) {
            int read = 0;
            boolean areInRange = true;
            for (int i = 0; i < MOST_SIGNS && signAt(at) == ' '; i++) {
                int number = readNumber();
                if (number == NONE) {
                    return NUMBER_MISSING;
                }
                int least = read % 2 == 0 ? 1 : 0;
                if (number < least || number > 60) {
                    areInRange = false;
                }
                if (read < numbers.length) {
                    numbers[read] = number;
                }
                read++;
            }
            if (read == 0 || read % 2 == 1) {
                return NUMBER_MISSING;
            }
            if (!areInRange) {
                return OUT_OF_RANGE;
            }
            if (read > MOST_NUMBERS) {
                return NO_ROOM;
            }
            if (!skips(';')) {
                return END_MISSING;
            }
            state.flash.drop();
            for (int i = 0; i + 1 < read && i + 1 < numbers.length; i += 2) {
                state.flash.append(numbers[i], numbers[i + 1]);
            }
            return NO_FAULT;
        }

        private int carryOutChanger(State state) {
            int kind = readEither("bulbs", "burners");
            if (kind == NONE) {
                return WRONG_WORD;
            }
            if (!skips(';')) {
                return END_MISSING;
            }
            state.changer.renew(kind);
            return NO_FAULT;
        }

        private int carryOutLamp(State state) {
            int kind = readEither("bulb", "burner");
            if (kind == NONE) {
                return WRONG_WORD;
            }
            int intensity = readNumber();
            int life = readNumber();
            if (intensity == NONE || life == NONE) {
                return NUMBER_MISSING;
            }
            if (intensity < 1 || intensity > 2000 || life < 1 || life > 5000) {
                return OUT_OF_RANGE;
            }
            if (kind != state.changer.kind) {
                return LAMP_UNFIT;
            }
            int place = state.changer.lowestEmpty();
            if (place == NONE) {
                return NO_ROOM;
            }
            if (!skips(';')) {
                return END_MISSING;
            }
            state.changer.insert(place, intensity, life);
            return NO_FAULT;
        }

        private int carryOutClear(State state) {
            int value = readNumber();
            int reason = reasonOf(value, 1, 100);
            if (reason == NO_FAULT) {
                state.clear = value;
            }
            return reason;
        }

        private int carryOutChange(State state) {
            int value = readNumber();
            int reason = reasonOf(value, 0, 50);
            if (reason == NO_FAULT) {
                state.changer.change = value;
            }
            return reason;
        }

        private int reasonOf(int value, int least, int most) {
            if (value == NONE) {
                return NUMBER_MISSING;
            }
            if (value < least || value > most) {
                return OUT_OF_RANGE;
            }
            return skips(';') ? NO_FAULT : END_MISSING;
        }

        private int readColor() {
            if (!skips(' ')) {
                return NONE;
            }
            int begin = at;
            skipLetters();
            if (isWord(begin, "dark")) {
                return 0;
            }
            if (isWord(begin, "white")) {
                return 1;
            }
            if (isWord(begin, "red")) {
                return 2;
            }
            return isWord(begin, "green") ? 3 : NONE;
        }

        private int readEither(String first, String second) {
            if (!skips(' ')) {
                return NONE;
            }
            int begin = at;
            skipLetters();
            if (isWord(begin, first)) {
                return 0;
            }
            return isWord(begin, second) ? 1 : NONE;
        }

        private int readNumber() {
            if (!skips(' ')) {
                return NONE;
            }
            int value = 0;
            int digits = 0;
            while (digits < MOST_DIGITS && signAt(at) >= '0' && signAt(at) <= '9') {
                value = value * 10 + (signAt(at) - '0');
                digits++;
                at++;
            }
            return digits == 0 ? NONE : value;
        }

        private void skipLetters() {
            for (int i = 0; i < MOST_SIGNS && signAt(at) >= 'a' && signAt(at) <= 'z'; i++) {
                at++;
            }
        }

        private boolean skips(char sign) {
            if (signAt(at) != sign) {
                return false;
            }
            at++;
            return true;
        }

        private boolean isWord(int begin, String word) {
            if (at - begin != word.length()) {
                return false;
            }
            for (int i = 0; i < word.length(); i++) {
                if (signAt(begin + i) != word.charAt(i)) {
                    return false;
                }
            }
            return true;
        }

        // behind the end it is the sign 0, which no text holds, so that nothing that is looked for stands there
        private char signAt(int index) {
            return index >= 0 && index < length && index < MOST_SIGNS ? signs[index] : (char) 0;
        }
    }

    /**
     * LANGUAGE.md leaves no floatToIntBits and no doubleToLongBits, so the bits are put together here; ranges and
     * shares are 0 or positive and neither tiny nor endless, so signs and the numbers at the ends need no care.
     */
    private static final class Bits {
        static int ofFloat(float value) {
            return (int) join((double) value, 127, 23);
        }

        static long ofDouble(double value) {
            return join(value, 1023, 52);
        }

        // the digit 1 that leads is left out of the bits, as every such number has it
        private static long join(double value, int bias, int digits) {
            if (value <= 0.0) {
                return 0L;
            }
            long one = 1L << digits;
            double rest = value;
            int exponent = bias;
            for (int i = 0; i < bias && rest >= 2.0; i++) {
                rest = rest / 2.0;
                exponent++;
            }
            for (int i = 0; i < bias && rest < 1.0; i++) {
                rest = rest * 2.0;
                exponent--;
            }
            return exponent * one + (long) ((rest - 1.0) * (double) one);
        }
    }
}
