/** Promises 21 to 24: what ships see, passages and their log. */
public final class ShipsTest {
    private static final Check C = new Check("ShipsTest");

    public static void main(String[] args) {
        sees();
        range();
        rangeAfterTheUse();
        seesInAChange();
        wrongPlace();
        pass();
        placesOfAPassage();
        throughTheLight();
        standing();
        wrongPass();
        log();
        wrongEntry();
        seen();
        C.end();
    }

    private static HarborLight fixed(int intensity, int life) {
        HarborLight x = new HarborLight();
        x.setCode(60, 0, 1);
        x.addLamp(0, intensity, life);
        return x;
    }

    private static void sees() {
        HarborLight x = fixed(1000, 5000);
        x.paint(2, 8, 8);
        x.paint(3, 9, 15);
        x.paint(0, 16, 16);
        C.due("21: white", x.sees(0, 10), 1);
        C.due("21: red", x.sees(10, 10), 2);
        C.due("21: green", x.sees(10, 5), 3);
        C.due("21: dark", x.sees(10, 0), 0);
        String before = Check.look(x);
        x.sees(0, 10);
        C.isTrue("21: nothing changes", before.equals(Check.look(x)) && x.count(9) == 5);
        x.setCode(1, 1, 1);
        C.due("21: lit tick", x.sees(0, 10), 1);
        x.advance(1);
        C.due("21: unlit tick", x.sees(0, 10), 0);
    }

    private static void range() {
        HarborLight x = fixed(2000, 5000);
        C.due("21: white, just in range", x.sees(1200, 1600), 1);
        C.due("21: white, just out of it", x.sees(1201, 1600), 0);
        x.paint(2, 0, 63);
        C.due("21: red, just in range", x.sees(-640, 480), 2);
        C.due("21: red, just out of it", x.sees(-641, 480), 0);
        x.paint(3, 0, 63);
        C.due("21: green, just in range", x.sees(0, -1100), 3);
        C.due("21: green, just out of it", x.sees(1, -1100), 0);
        x.set(1, 100);
        C.due("21: clear air", x.sees(0, 2200), 3);
        C.due("21: clear air, out of range", x.sees(1, 2200), 0);
        x.set(1, 1);
        C.due("21: thick air", x.sees(0, 22), 3);
        C.due("21: thick air, out of range", x.sees(1, 22), 0);
    }

    private static void rangeAfterTheUse() {
        HarborLight x = fixed(100, 1);
        C.due("16: before the tick", x.rangeBits(1), Float.floatToIntBits(100f));
        C.due("21: at the end of the tick's use", x.sees(50, 0), 1);
        C.due("21: not at its begin", x.sees(51, 0), 0);
        C.due("22: the same in a passage", x.pass(51, 0, 51, 0, 1), 1);
        C.due("22: it sees dark", x.seen(1), 0);
        C.due("21: burnt out", x.sees(1, 0), 0);
    }

    private static void seesInAChange() {
        HarborLight x = fixed(100, 1);
        x.addLamp(0, 200, 9);
        x.set(0, 2);
        x.advance(1);
        C.due("21: a tick of change", x.sees(1, 1), 0);
        x.advance(2);
        C.due("21: the new lamp", x.sees(0, 189), 1);
        C.due("21: faded by one tick", x.sees(0, 190), 0);
        x.undo();
        x.set(0, 0);
        C.due("21: a change of no ticks", x.sees(0, 189), 1);
        C.due("21: place stays", x.count(3), 0);
        C.due("18: account stays", x.account(5), 0);
    }

    private static void wrongPlace() {
        HarborLight x = fixed(100, 9);
        C.due("21: at the light", x.sees(0, 0), -2);
        for (int far : new int[] {-10001, 10001, Integer.MIN_VALUE, Integer.MAX_VALUE}) {
            C.due("21: x " + far, x.sees(far, 0), -1);
            C.due("21: y " + far, x.sees(0, far), -1);
        }
        C.due("21: far, but right", x.sees(10000, -10000), 0);
    }

    private static void entry(HarborLight x, int index, int... due) {
        for (int what = 0; what < 4; what++) {
            C.due("23: entry " + index + " " + what, x.entry(index, what), due[what]);
        }
    }

    private static void pass() {
        HarborLight x = new HarborLight();
        x.addLamp(0, 1000, 100);
        x.advance(1);
        C.due("22: light 1, dark 2 and 3, light 4", x.pass(0, 10, 1, 10, 4), 3);
        entry(x, 2, 1, 1, 0, 0);
        entry(x, 1, 2, 0, 0, 0);
        entry(x, 0, 4, 1, 0, 0);
        C.due("22: time goes on", x.account(0), 5);
        C.due("18: passages", x.account(6), 1);
        C.due("18: entries", x.account(7), 3);
        C.due("22: the same color, but a new passage", x.pass(0, 10, 0, 10, 1), 1);
        entry(x, 0, 5, 1, 0, 1);
        C.due("22: changes", x.count(9), 4);
        C.due("22: lit ticks are accounted", x.account(1), 4);
    }

    private static void placesOfAPassage() {
        HarborLight x = fixed(1000, 1000);
        x.paint(2, 8, 8);
        x.paint(3, 56, 56);
        // x is 1, 0, 0, -1: the difference of -1/2 and -3/2 is rounded down
        C.due("22: to the west", x.pass(1, 1, -1, 1, 4), 3);
        entry(x, 2, 0, 2, 8, 0);
        entry(x, 1, 1, 1, 0, 0);
        entry(x, 0, 3, 3, 56, 0);
        // x is -1, -1, 0, 0
        C.due("22: to the east", x.pass(-1, 1, 1, 1, 4), 2);
        entry(x, 1, 4, 3, 56, 1);
        entry(x, 0, 6, 1, 0, 1);
        // y is 1, 0, 0, -1
        x.paint(0, 17, 31);
        C.due("22: to the south", x.pass(1, 1, 1, -1, 4), 3);
        entry(x, 2, 8, 2, 8, 2);
        entry(x, 1, 9, 1, 16, 2);
        entry(x, 0, 11, 0, 24, 2);
        C.due("22: the end is not reached", x.pass(0, 5000, 0, 0, 2), 1);
        entry(x, 0, 12, 0, 0, 3);
        // out of range, white, at the light, red, out of range
        C.due("22: from corner to corner", x.pass(-10000, -10000, 10000, 10000, 500), 5);
        C.due("22: all ticks", x.account(0), 514);
    }

    private static void throughTheLight() {
        HarborLight x = fixed(1000, 1000);
        C.due("22: white, dark at the light, white", x.pass(0, 2, 0, -3, 5), 3);
        entry(x, 2, 0, 1, 0, 0);
        entry(x, 1, 2, 0, -4, 0);
        entry(x, 0, 3, 1, 32, 0);
        C.due("24: dark for one tick", x.seen(0), 1);
        C.due("24: white for four", x.seen(1), 4);
    }

    private static void standing() {
        HarborLight x = fixed(1000, 1000);
        C.due("22: at the light all the time", x.pass(0, 0, 0, 0, 3), 1);
        entry(x, 0, 0, 0, -4, 0);
        C.due("22: the lamp burns", x.lamp(0, 3), 3);
        C.due("22: at one place", x.pass(3, 4, 3, 4, 500), 1);
        C.due("22: without a lamp", new HarborLight().pass(3, 4, 3, 4, 5), 1);
    }

    private static void wrongPass() {
        HarborLight x = fixed(1000, 1000);
        for (int far : new int[] {-10001, 10001, Integer.MIN_VALUE, Integer.MAX_VALUE}) {
            C.due("22: x " + far, x.pass(far, 0, 0, 0, 1), -1);
            C.due("22: y " + far, x.pass(0, far, 0, 0, 1), -1);
            C.due("22: toX " + far, x.pass(0, 0, far, 0, 1), -1);
            C.due("22: toY " + far, x.pass(0, 0, 0, far, 1), -1);
        }
        for (int wrong : new int[] {0, -1, 501, Integer.MIN_VALUE, Integer.MAX_VALUE}) {
            C.due("22: ticks " + wrong, x.pass(0, 1, 0, 1, wrong), -1);
        }
        C.due("22: no change", x.count(9), 2);
        C.due("22: no passage", x.account(6), 0);
        C.due("24: no passage", x.seen(0), -2);
    }

    private static void log() {
        HarborLight x = new HarborLight();
        x.addLamp(0, 1000, 5000);
        x.setCode(1, 1, 1);
        C.due("22: 39 entries", x.pass(0, 10, 0, 10, 39), 39);
        C.due("19: 39 kept", x.count(8), 39);
        C.due("22: 39 more", x.pass(0, 10, 0, 10, 39), 39);
        C.due("19: 40 kept", x.count(8), 40);
        C.due("18: all of them", x.account(7), 78);
        entry(x, 0, 77, 0, 0, 1);
        entry(x, 38, 39, 0, 0, 1);
        entry(x, 39, 38, 1, 0, 0);
        C.due("23: not kept", x.entry(40, 0), -4);
        C.due("22: more than are kept", x.pass(0, 10, 0, 10, 500), 500);
        entry(x, 39, 538, 1, 0, 2);
        C.due("18: all", x.account(7), 578);
    }

    private static void wrongEntry() {
        HarborLight x = fixed(1000, 1000);
        C.due("23: none", x.entry(0, 0), -4);
        C.due("23: what below", x.entry(0, -1), -1);
        C.due("23: what above", x.entry(0, 4), -1);
        C.due("23: index below", x.entry(-1, 0), -1);
        C.due("23: index far below", x.entry(Integer.MIN_VALUE, 3), -1);
        C.due("23: index far above", x.entry(Integer.MAX_VALUE, 3), -4);
        x.pass(1, 1, 1, 1, 1);
        C.due("23: one", x.entry(0, 3), 0);
        C.due("23: only one", x.entry(1, 3), -4);
    }

    private static void seen() {
        HarborLight x = fixed(1000, 1000);
        C.due("24: wrong before no passage", x.seen(4), -1);
        C.due("24: no passage", x.seen(3), -2);
        x.paint(2, 8, 8);
        x.paint(3, 56, 56);
        x.pass(1, 1, -1, 1, 4);
        int[] due = {0, 2, 1, 1};
        for (int color = 0; color < 4; color++) {
            C.due("24: seen " + color, x.seen(color), due[color]);
        }
        x.advance(3);
        C.due("24: ticks without a passage", x.seen(1), 2);
        x.pass(0, 0, 0, 0, 7);
        C.due("24: seven dark ticks", x.seen(0), 7);
        x.pass(-1, 1, -1, 1, 2);
        int[] then = {0, 0, 0, 2};
        for (int color = 0; color < 4; color++) {
            C.due("24: the latest passage " + color, x.seen(color), then[color]);
        }
        C.due("24: below", x.seen(-1), -1);
        C.due("24: above", x.seen(4), -1);
    }
}
