import java.util.ArrayList;
import java.util.List;
import java.util.regex.Matcher;
import java.util.regex.Pattern;

/** A second light, written from the document alone with the Java library, to compare answers with. */
final class Model {
    static final class Lamp implements Cloneable {
        int kind;
        int intensity;
        int life;
        int use;

        Lamp(int kind, int intensity, int life, int use) {
            this.kind = kind;
            this.intensity = intensity;
            this.life = life;
            this.use = use;
        }

        int brightness() {
            return intensity - intensity * use / (2 * life);
        }

        boolean burnt() {
            return use >= life;
        }

        boolean same(Lamp o) {
            return kind == o.kind && intensity == o.intensity && life == o.life && use == o.use;
        }
    }

    static final class World {
        int[] colors = new int[64];
        List<int[]> code = new ArrayList<>();
        int changerKind;
        Lamp[] lamps = new Lamp[6];
        int present;
        int change = 3;
        int clear = 50;
        int left;
        int tick;
        int[] accounts = new int[8];
        List<int[]> log = new ArrayList<>();
        int[] seen;

        World() {
            java.util.Arrays.fill(colors, 1);
            code.add(new int[] {2, 2});
        }

        World copy() {
            World w = new World();
            w.colors = colors.clone();
            w.code = new ArrayList<>(code);
            w.changerKind = changerKind;
            for (int i = 0; i < 6; i++) {
                Lamp l = lamps[i];
                w.lamps[i] = l == null ? null : new Lamp(l.kind, l.intensity, l.life, l.use);
            }
            w.present = present;
            w.change = change;
            w.clear = clear;
            w.left = left;
            w.tick = tick;
            w.accounts = accounts.clone();
            w.log = new ArrayList<>(log);
            w.seen = seen == null ? null : seen.clone();
            return w;
        }

        String pattern() {
            StringBuilder b = new StringBuilder();
            for (int[] p : code) {
                b.append("1".repeat(p[0])).append("0".repeat(p[1]));
            }
            return b.toString();
        }

        boolean litAt(int t) {
            String p = pattern();
            return p.charAt(t % p.length()) == '1';
        }

        int emptyPlace() {
            for (int i = 0; i < 6; i++) {
                if (lamps[i] == null) {
                    return i;
                }
            }
            return -1;
        }

        /** 1 lit, 2 unlit, 3 change, 4 idle. */
        int step(String pattern) {
            boolean due = lamps[present] == null || lamps[present].burnt();
            if (left == 0 && due) {
                int p = (present + 1) % 6;
                while (p != present && (lamps[p] == null || lamps[p].burnt())) {
                    p = (p + 1) % 6;
                }
                if (p != present) {
                    present = p;
                    left = change;
                    accounts[5]++;
                }
            }
            int kind;
            if (left > 0) {
                left--;
                kind = 3;
            } else if (lamps[present] == null || lamps[present].burnt()) {
                kind = 4;
            } else if (pattern.charAt(tick % pattern.length()) == '1') {
                kind = 1;
                lamps[present].use++;
            } else {
                kind = 2;
                if (lamps[present].kind == 1 && tick % 4 == 0) {
                    lamps[present].use++;
                }
            }
            accounts[0]++;
            accounts[kind]++;
            tick++;
            return kind;
        }

        float range(int color) {
            float brightness = lamps[present] == null ? 0.0f : (float) lamps[present].brightness();
            float percent = new float[] {0f, 100f, 40f, 55f}[color];
            return brightness * percent / 100.0f * (float) clear / 50.0f;
        }

        int view(int x, int y, int kind) {
            if (kind != 1 || x == 0 && y == 0) {
                return 0;
            }
            int color = colors[where(x, y)];
            double r = range(color);
            return (double) (x * x + y * y) <= r * r ? color : 0;
        }
    }

    static int s(int k) {
        int[] first = {0, 98, 195, 290, 383, 471, 556, 634, 707, 773, 831, 882, 924, 957, 981, 995, 1000};
        k = Math.floorMod(k, 64);
        if (k > 32) {
            return -s(k - 32);
        }
        return k <= 16 ? first[k] : first[32 - k];
    }

    static int where(int x, int y) {
        if (x == 0 && y == 0) {
            return -4;
        }
        int found = -9;
        for (int k = 0; k < 64; k++) {
            long behind = (long) x * s(k + 16) - (long) y * s(k);
            long ahead = (long) x * s(k + 17) - (long) y * s(k + 1);
            if (behind >= 0 && ahead < 0) {
                if (found >= 0) {
                    throw new IllegalStateException("two directions of one place");
                }
                found = k;
            }
        }
        return found;
    }

    World w = new World();
    World kept;
    List<World> past = new ArrayList<>();
    String text = "";

    private void remember() {
        past.add(w.copy());
        if (past.size() > 5) {
            past.remove(0);
        }
    }

    private static boolean in(int v, int a, int b) {
        return v >= a && v <= b;
    }

    private static boolean near(int... all) {
        for (int v : all) {
            if (!in(v, -10000, 10000)) {
                return false;
            }
        }
        return true;
    }

    int paint(int color, int from, int to) {
        if (!in(color, 0, 3) || !in(from, 0, 63) || !in(to, 0, 63)) {
            return -1;
        }
        remember();
        return doPaint(w, color, from, to);
    }

    private static int doPaint(World w, int color, int from, int to) {
        int n = 0;
        for (int k = from; ; k = (k + 1) % 64) {
            if (w.colors[k] != color) {
                n++;
            }
            w.colors[k] = color;
            if (k == to) {
                return n;
            }
        }
    }

    int color(int d) {
        return in(d, 0, 63) ? w.colors[d] : -1;
    }

    private List<int[]> sectors() {
        List<int[]> all = new ArrayList<>();
        for (int k = 0; k < 64; k++) {
            if (w.colors[k] != w.colors[(k + 63) % 64]) {
                int n = 1;
                while (w.colors[(k + n) % 64] == w.colors[k]) {
                    n++;
                }
                all.add(new int[] {k, n, w.colors[k]});
            }
        }
        if (all.isEmpty()) {
            all.add(new int[] {0, 64, w.colors[0]});
        }
        return all;
    }

    int sector(int sector, int what) {
        if (sector < 0 || !in(what, 0, 2)) {
            return -1;
        }
        return sector < sectors().size() ? sectors().get(sector)[what] : -4;
    }

    int direction(int x, int y) {
        return near(x, y) ? where(x, y) : -1;
    }

    int again(int x, int y) {
        return direction(x, y);
    }

    int setCode(int light, int dark, int isNew) {
        if (!in(light, 1, 60) || !in(dark, 0, 60) || !in(isNew, 0, 1)) {
            return -1;
        }
        if (isNew == 0 && w.code.size() == 8) {
            return -3;
        }
        remember();
        if (isNew == 1) {
            w.code.clear();
        }
        w.code.add(new int[] {light, dark});
        return w.pattern().length();
    }

    private int lightTotal() {
        return w.pattern().replace("0", "").length();
    }

    int code(int what) {
        int period = w.pattern().length();
        int light = lightTotal();
        int dark = period - light;
        switch (what) {
            case 0: return w.code.size();
            case 1: return period;
            case 2: return light;
            case 3: return dark == 0 ? 0 : w.code.size() == 1 && light == dark ? 1 : dark > light ? 2 : 3;
            case 4: return w.litAt(w.tick) ? 1 : 0;
            default: return -1;
        }
    }

    long shareBits() {
        return Double.doubleToLongBits((double) lightTotal() / (double) w.pattern().length());
    }

    int next(int lit) {
        if (!in(lit, 0, 1)) {
            return -1;
        }
        for (int t = w.tick; t < w.tick + 1000; t++) {
            if (w.litAt(t) == (lit == 1)) {
                return t;
            }
        }
        return -4;
    }

    int setChanger(int kind) {
        if (!in(kind, 0, 1)) {
            return -1;
        }
        remember();
        int n = count(1);
        doChanger(w, kind);
        return n;
    }

    private static void doChanger(World w, int kind) {
        w.changerKind = kind;
        w.lamps = new Lamp[6];
        w.present = 0;
        w.left = 0;
    }

    int addLamp(int kind, int intensity, int life) {
        if (!in(kind, 0, 1) || !in(intensity, 1, 2000) || !in(life, 1, 5000)) {
            return -1;
        }
        if (kind != w.changerKind) {
            return -2;
        }
        int p = w.emptyPlace();
        if (p < 0) {
            return -3;
        }
        remember();
        w.lamps[p] = new Lamp(kind, intensity, life, 0);
        return p;
    }

    int takeLamp(int place) {
        if (!in(place, 0, 5)) {
            return -1;
        }
        if (w.lamps[place] == null) {
            return -4;
        }
        remember();
        int use = w.lamps[place].use;
        w.lamps[place] = null;
        return use;
    }

    int lamp(int place, int what) {
        if (!in(place, 0, 5) || !in(what, 0, 5)) {
            return -1;
        }
        Lamp l = w.lamps[place];
        if (l == null) {
            return -4;
        }
        return new int[] {l.kind, l.intensity, l.life, l.use, l.brightness(), l.burnt() ? 1 : 0}[what];
    }

    int set(int what, int value) {
        if (!in(what, 0, 1) || what == 0 && !in(value, 0, 50) || what == 1 && !in(value, 1, 100)) {
            return -1;
        }
        remember();
        int old = what == 0 ? w.change : w.clear;
        if (what == 0) {
            w.change = value;
        } else {
            w.clear = value;
        }
        return old;
    }

    int rangeBits(int color) {
        return in(color, 0, 3) ? Float.floatToIntBits(w.range(color)) : -1;
    }

    int advance(int ticks) {
        if (!in(ticks, 1, 2000)) {
            return -1;
        }
        if (w.tick + ticks > 1000000) {
            return -3;
        }
        remember();
        int lit = w.accounts[1];
        String p = w.pattern();
        for (int i = 0; i < ticks; i++) {
            w.step(p);
        }
        return w.accounts[1] - lit;
    }

    int account(int what) {
        return in(what, 0, 7) ? w.accounts[what] : -1;
    }

    int count(int what) {
        int lamps = 0;
        int good = 0;
        for (Lamp l : w.lamps) {
            lamps += l != null ? 1 : 0;
            good += l != null && !l.burnt() ? 1 : 0;
        }
        int[] all = {sectors().size(), lamps, good, w.present, w.left, w.changerKind, w.change, w.clear,
            Math.min(40, w.log.size()), past.size(), text.length(), kept == null ? 0 : 1};
        return in(what, 0, 11) ? all[what] : -1;
    }

    int untilIdle() {
        World trial = w.copy();
        String p = trial.pattern();
        for (int i = 0; i < 20000; i++) {
            if (trial.step(p) == 4) {
                return i;
            }
        }
        return -4;
    }

    int sees(int x, int y) {
        if (!near(x, y)) {
            return -1;
        }
        if (x == 0 && y == 0) {
            return -2;
        }
        World trial = w.copy();
        return trial.view(x, y, trial.step(trial.pattern()));
    }

    int pass(int x, int y, int toX, int toY, int n) {
        if (!near(x, y, toX, toY) || !in(n, 1, 500)) {
            return -1;
        }
        if (w.tick + n > 1000000) {
            return -3;
        }
        remember();
        int before = w.log.size();
        String p = w.pattern();
        w.seen = new int[4];
        int last = -1;
        for (int i = 0; i < n; i++) {
            int sx = (int) Math.floor(x + (double) (toX - x) * i / n);
            int sy = (int) Math.floor(y + (double) (toY - y) * i / n);
            int t = w.tick;
            int color = w.view(sx, sy, w.step(p));
            w.seen[color]++;
            if (color != last) {
                w.log.add(new int[] {t, color, where(sx, sy), w.accounts[6]});
            }
            last = color;
        }
        w.accounts[6]++;
        w.accounts[7] = w.log.size();
        return w.log.size() - before;
    }

    int entry(int index, int what) {
        if (index < 0 || !in(what, 0, 3)) {
            return -1;
        }
        return index < count(8) ? w.log.get(w.log.size() - 1 - index)[what] : -4;
    }

    int seen(int color) {
        if (!in(color, 0, 3)) {
            return -1;
        }
        return w.seen == null ? -2 : w.seen[color];
    }

    int store() {
        kept = w.copy();
        return w.tick;
    }

    int recall() {
        if (kept == null) {
            return -2;
        }
        remember();
        w = kept.copy();
        return w.tick;
    }

    int compare(int what) {
        if (!in(what, 0, 3)) {
            return -1;
        }
        if (kept == null) {
            return -2;
        }
        int n = 0;
        switch (what) {
            case 0:
                for (int k = 0; k < 64; k++) {
                    n += w.colors[k] != kept.colors[k] ? 1 : 0;
                }
                return n;
            case 1: {
                boolean same = w.code.size() == kept.code.size();
                for (int i = 0; same && i < w.code.size(); i++) {
                    same = java.util.Arrays.equals(w.code.get(i), kept.code.get(i));
                }
                return same ? 0 : 1;
            }
            case 2:
                for (int i = 0; i < 6; i++) {
                    Lamp a = w.lamps[i];
                    Lamp b = kept.lamps[i];
                    n += (a == null) != (b == null) || a != null && !a.same(b) ? 1 : 0;
                }
                return n;
            default:
                return w.tick - kept.tick + 1000000;
        }
    }

    int undo() {
        if (past.isEmpty()) {
            return -2;
        }
        w = past.remove(past.size() - 1);
        return past.size();
    }

    int type(int c) {
        if (!in(c, 32, 126)) {
            return -1;
        }
        if (text.length() == 120) {
            return -3;
        }
        text += (char) c;
        return text.length();
    }

    int clearText() {
        int n = text.length();
        text = "";
        return n;
    }

    /** {items, index, reason}; the reason is 0 if there is no fault. */
    private int[] read(World trial) {
        int at = 0;
        int items = 0;
        while (at < text.length()) {
            int[] r = readItem(trial, text.substring(at));
            if (r[0] != 0) {
                return new int[] {items, at, r[0]};
            }
            at += r[1];
            items++;
        }
        return new int[] {items, -4, 0};
    }

    private static int[] no(int reason) {
        return new int[] {reason, 0};
    }

    /** {reason, length} */
    private static int[] readItem(World trial, String rest) {
        Matcher m = Pattern.compile("^[a-z]*").matcher(rest);
        m.find();
        String word = m.group();
        String tail = rest.substring(word.length());
        List<String> seconds;
        switch (word) {
            case "sector": seconds = List.of("dark", "white", "red", "green"); break;
            case "changer": seconds = List.of("bulbs", "burners"); break;
            case "lamp": seconds = List.of("bulb", "burner"); break;
            case "code": case "clear": case "change": seconds = null; break;
            default: return no(1);
        }
        int second = -1;
        if (seconds != null) {
            m = Pattern.compile("^ ([a-z]*)").matcher(tail);
            if (!m.find() || !seconds.contains(m.group(1))) {
                return no(1);
            }
            second = seconds.indexOf(m.group(1));
            tail = tail.substring(m.end());
        }
        List<Integer> numbers = new ArrayList<>();
        int wanted = word.equals("code") ? 999 : word.equals("changer") ? 0
            : word.equals("sector") || word.equals("lamp") ? 2 : 1;
        while (numbers.size() < wanted) {
            m = Pattern.compile("^ ([0-9]{1,4})").matcher(tail);
            if (!m.find()) {
                if (wanted < 999 || tail.startsWith(" ") || numbers.isEmpty() || numbers.size() % 2 == 1) {
                    return no(2);
                }
                break;
            }
            numbers.add(Integer.parseInt(m.group(1)));
            tail = tail.substring(m.end());
        }
        for (int i = 0; i < numbers.size(); i++) {
            int low = 0;
            int high;
            switch (word) {
                case "sector": high = 63; break;
                case "code": low = 1 - i % 2; high = 60; break;
                case "lamp": low = 1; high = i == 0 ? 2000 : 5000; break;
                case "clear": low = 1; high = 100; break;
                default: high = 50; break;
            }
            if (!in(numbers.get(i), low, high)) {
                return no(3);
            }
        }
        if (word.equals("lamp") && second != trial.changerKind) {
            return no(4);
        }
        if (word.equals("lamp") && trial.emptyPlace() < 0 || numbers.size() > 16) {
            return no(5);
        }
        if (!tail.startsWith(";")) {
            return no(6);
        }
        apply(trial, word, second, numbers);
        return new int[] {0, rest.length() - tail.length() + 1};
    }

    private static void apply(World trial, String word, int second, List<Integer> numbers) {
        switch (word) {
            case "sector": doPaint(trial, second, numbers.get(0), numbers.get(1)); break;
            case "code":
                trial.code.clear();
                for (int i = 0; i < numbers.size(); i += 2) {
                    trial.code.add(new int[] {numbers.get(i), numbers.get(i + 1)});
                }
                break;
            case "changer": doChanger(trial, second); break;
            case "lamp":
                trial.lamps[trial.emptyPlace()] = new Lamp(second, numbers.get(0), numbers.get(1), 0);
                break;
            case "clear": trial.clear = numbers.get(0); break;
            default: trial.change = numbers.get(0); break;
        }
    }

    int fault(int what) {
        if (!in(what, 0, 1)) {
            return -1;
        }
        int[] r = read(w.copy());
        return r[2] == 0 ? -4 : r[1 + what];
    }

    int load() {
        World trial = w.copy();
        int[] r = read(trial);
        if (r[2] != 0) {
            return -2;
        }
        remember();
        w = trial;
        return r[0];
    }
}
