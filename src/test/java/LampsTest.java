/** Promises 11 to 16: the changer, its lamps, the settings and the range. */
public final class LampsTest {
    private static final Check C = new Check("LampsTest");

    public static void main(String[] args) {
        setChanger();
        addLamp();
        wrongLamp();
        takeLamp();
        lamp();
        fading();
        set();
        ranges();
        rangeOfNone();
        C.end();
    }

    private static void setChanger() {
        HarborLight x = new HarborLight();
        C.due("11: empty one", x.setChanger(1), 0);
        C.due("11: kind", x.count(5), 1);
        for (int i = 0; i < 3; i++) {
            x.addLamp(1, 100, 1);
        }
        x.setCode(1, 0, 1);
        x.set(0, 5);
        x.advance(2);
        C.due("11: present place before", x.count(3), 1);
        C.due("11: ticks of change before", x.count(4), 4);
        C.due("11: three lamps", x.setChanger(0), 3);
        C.due("11: kind then", x.count(5), 0);
        C.due("11: no lamps", x.count(1), 0);
        C.due("11: present place", x.count(3), 0);
        C.due("11: no change goes on", x.count(4), 0);
        C.due("11: the setting stays", x.count(6), 5);
        C.due("11: the account stays", x.account(5), 1);
        C.due("11: place 0", x.lamp(0, 0), -4);
        x.addLamp(0, 5, 5);
        C.due("11: the same kind empties too", x.setChanger(0), 1);
        C.due("11: below", x.setChanger(-1), -1);
        C.due("11: above", x.setChanger(2), -1);
        C.due("11: changes", x.count(9), 5);
    }

    private static void addLamp() {
        HarborLight x = new HarborLight();
        for (int place = 0; place < 6; place++) {
            C.due("12: place " + place, x.addLamp(0, 1 + place, 10 + place), place);
        }
        C.due("12: full", x.addLamp(0, 1, 1), -3);
        C.due("12: does not fit, full or not", x.addLamp(1, 1, 1), -2);
        C.due("12: wrong before all", x.addLamp(1, 0, 1), -1);
        x.takeLamp(4);
        x.takeLamp(2);
        C.due("12: lowest empty place", x.addLamp(0, 50, 60), 2);
        C.due("12: its intensity", x.lamp(2, 1), 50);
        C.due("12: next empty place", x.addLamp(0, 51, 61), 4);
        C.due("12: lamps", x.count(1), 6);
        C.due("12: a later one stays", x.lamp(5, 2), 15);
    }

    private static void wrongLamp() {
        HarborLight x = new HarborLight();
        int[][] wrong = {{-1, 1, 1}, {2, 1, 1}, {0, 0, 1}, {0, 2001, 1}, {0, 1, 0}, {0, 1, 5001},
            {Integer.MIN_VALUE, 1, 1}, {0, Integer.MAX_VALUE, 1}, {0, 1, Integer.MIN_VALUE}};
        for (int[] w : wrong) {
            C.due("12: wrong argument", x.addLamp(w[0], w[1], w[2]), -1);
        }
        C.due("12: burner into a changer for bulbs", x.addLamp(1, 1, 1), -2);
        C.due("12: largest", x.addLamp(0, 2000, 5000), 0);
        C.due("12: only one change", x.count(9), 1);
        x.setChanger(1);
        C.due("12: bulb into a changer for burners", x.addLamp(0, 1, 1), -2);
        C.due("12: burner", x.addLamp(1, 1, 1), 0);
    }

    private static void takeLamp() {
        HarborLight x = new HarborLight();
        x.addLamp(0, 100, 50);
        x.addLamp(0, 200, 60);
        x.setCode(1, 0, 1);
        x.advance(7);
        C.due("13: use", x.takeLamp(0), 7);
        C.due("13: gone", x.takeLamp(0), -4);
        C.due("13: unused", x.takeLamp(1), 0);
        for (int wrong : new int[] {-1, 6, Integer.MIN_VALUE, Integer.MAX_VALUE}) {
            C.due("13: wrong " + wrong, x.takeLamp(wrong), -1);
        }
        C.due("13: a new lamp has no use", x.addLamp(0, 10, 10), 0);
        C.due("13: its use", x.lamp(0, 3), 0);
        for (int place = 1; place < 6; place++) {
            x.addLamp(0, 10 + place, 10);
        }
        C.due("13: last place", x.takeLamp(5), 0);
        C.due("13: last place is empty", x.lamp(5, 1), -4);
        C.due("13: the place before it is not", x.lamp(4, 1), 14);
    }

    private static void lamp() {
        HarborLight x = new HarborLight();
        x.addLamp(0, 1500, 3);
        int[] fresh = {0, 1500, 3, 0, 1500, 0};
        for (int what = 0; what < 6; what++) {
            C.due("14: fresh " + what, x.lamp(0, what), fresh[what]);
        }
        x.setCode(1, 0, 1);
        x.advance(2);
        int[] used = {0, 1500, 3, 2, 1000, 0};
        for (int what = 0; what < 6; what++) {
            C.due("14: used " + what, x.lamp(0, what), used[what]);
        }
        x.advance(9);
        int[] burnt = {0, 1500, 3, 3, 750, 1};
        for (int what = 0; what < 6; what++) {
            C.due("14: burnt out " + what, x.lamp(0, what), burnt[what]);
        }
        C.due("14: empty", x.lamp(1, 0), -4);
        C.due("14: place below", x.lamp(-1, 0), -1);
        C.due("14: place above", x.lamp(6, 0), -1);
        C.due("14: what below", x.lamp(0, -1), -1);
        C.due("14: what above", x.lamp(0, 6), -1);
        C.due("14: wrong before empty", x.lamp(1, 6), -1);
        x.setChanger(1);
        x.addLamp(1, 1, 1);
        C.due("14: burner", x.lamp(0, 0), 1);
    }

    /** The quotient is rounded, not the difference. */
    private static void fading() {
        HarborLight x = new HarborLight();
        x.addLamp(0, 7, 5);
        x.setCode(1, 0, 1);
        int[] due = {7, 7, 6, 5, 5, 4};
        for (int use = 0; use <= 5; use++) {
            C.due("14: brightness after " + use, x.lamp(0, 4), due[use]);
            x.advance(1);
        }
    }

    private static void set() {
        HarborLight x = new HarborLight();
        C.due("15: change was", x.set(0, 0), 3);
        C.due("15: change was 0", x.set(0, 50), 0);
        C.due("15: change is", x.count(6), 50);
        C.due("15: clear was", x.set(1, 1), 50);
        C.due("15: clear was 1", x.set(1, 100), 1);
        C.due("15: clear is", x.count(7), 100);
        int[][] wrong = {{-1, 1}, {2, 1}, {0, -1}, {0, 51}, {1, 0}, {1, 101}, {Integer.MAX_VALUE, 1},
            {0, Integer.MIN_VALUE}, {1, Integer.MAX_VALUE}};
        for (int[] w : wrong) {
            C.due("15: wrong " + w[0] + " " + w[1], x.set(w[0], w[1]), -1);
        }
        C.due("15: change stays", x.count(6), 50);
        C.due("15: clear stays", x.count(7), 100);
        C.due("15: changes", x.count(9), 4);
    }

    private static void ranges() {
        float[] percents = {0f, 100f, 40f, 55f};
        for (int intensity = 1; intensity <= 2000; intensity += intensity < 40 ? 1 : 37) {
            HarborLight x = new HarborLight();
            x.addLamp(0, intensity, 5000);
            for (int clear = 1; clear <= 100; clear++) {
                x.set(1, clear);
                for (int color = 0; color < 4; color++) {
                    float range = (float) intensity * percents[color] / 100.0f * (float) clear / 50.0f;
                    C.due("16: range " + intensity + " " + clear + " " + color, x.rangeBits(color),
                        Float.floatToIntBits(range));
                }
            }
        }
    }

    private static void rangeOfNone() {
        HarborLight x = new HarborLight();
        C.due("16: no lamp", x.rangeBits(1), 0);
        for (int wrong : new int[] {-1, 4, Integer.MIN_VALUE, Integer.MAX_VALUE}) {
            C.due("16: wrong " + wrong, x.rangeBits(wrong), -1);
        }
        x.addLamp(0, 1000, 1);
        x.addLamp(0, 300, 9);
        C.due("16: lamp at the present place", x.rangeBits(1), Float.floatToIntBits(1000f));
        x.setCode(1, 0, 1);
        x.advance(1);
        C.due("16: burnt out, but there", x.rangeBits(1), Float.floatToIntBits(500f));
        x.advance(1);
        C.due("16: the next one, while it is changed", x.rangeBits(1), Float.floatToIntBits(300f));
        x.takeLamp(1);
        C.due("16: none at the present place", x.rangeBits(3), 0);
    }
}
