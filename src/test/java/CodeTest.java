/** Promises 7 to 10: the flash code. */
public final class CodeTest {
    private static final Check C = new Check("CodeTest");

    public static void main(String[] args) {
        setCode();
        mostParts();
        wrongCode();
        kinds();
        litTicks();
        shares();
        next();
        C.end();
    }

    private static void code(HarborLight x, String run, int parts, int period, int light, int kind) {
        C.due("8: parts " + run, x.code(0), parts);
        C.due("8: period " + run, x.code(1), period);
        C.due("8: light " + run, x.code(2), light);
        C.due("8: kind " + run, x.code(3), kind);
    }

    private static void setCode() {
        HarborLight x = new HarborLight();
        C.due("7: append to the first one", x.setCode(1, 5, 0), 10);
        code(x, "appended", 2, 10, 3, 2);
        C.due("7: new", x.setCode(60, 60, 1), 120);
        code(x, "new", 1, 120, 60, 1);
        C.due("7: least", x.setCode(1, 0, 1), 1);
        code(x, "least", 1, 1, 1, 0);
        C.due("7: changes", x.count(9), 3);
    }

    private static void mostParts() {
        HarborLight x = new HarborLight();
        for (int parts = 2; parts <= 8; parts++) {
            C.due("7: part " + parts, x.setCode(60, 60, 0), 4 + 120 * (parts - 1));
        }
        C.due("7: ninth part", x.setCode(1, 1, 0), -3);
        C.due("7: ninth part, wrong", x.setCode(0, 1, 0), -1);
        code(x, "of eight parts", 8, 844, 422, 3);
        C.due("7: new instead", x.setCode(1, 1, 1), 2);
        C.due("7: room again", x.setCode(1, 1, 0), 4);
    }

    private static void wrongCode() {
        HarborLight x = new HarborLight();
        int[][] wrong = {{0, 1, 1}, {61, 1, 1}, {1, -1, 1}, {1, 61, 1}, {1, 1, -1}, {1, 1, 2},
            {Integer.MIN_VALUE, 1, 1}, {1, Integer.MAX_VALUE, 0}, {1, 1, Integer.MAX_VALUE}};
        for (int[] w : wrong) {
            C.due("7: wrong argument", x.setCode(w[0], w[1], w[2]), -1);
        }
        code(x, "unchanged", 1, 4, 2, 1);
        C.due("7: no change", x.count(9), 0);
        C.due("8: below", x.code(-1), -1);
        C.due("8: above", x.code(5), -1);
        C.due("8: far", x.code(Integer.MIN_VALUE), -1);
    }

    private static void kinds() {
        HarborLight x = new HarborLight();
        x.setCode(7, 0, 1);
        x.setCode(9, 0, 0);
        C.due("8: fixed of two parts", x.code(3), 0);
        x.setCode(1, 1, 0);
        C.due("8: occulting", x.code(3), 3);
        x.setCode(3, 3, 1);
        C.due("8: isophase", x.code(3), 1);
        x.setCode(3, 3, 0);
        C.due("8: as much dark as light, but two parts", x.code(3), 3);
        x.setCode(1, 2, 0);
        C.due("8: flashing", x.code(3), 2);
        x.setCode(4, 3, 1);
        C.due("8: occulting of one part", x.code(3), 3);
        x.setCode(3, 4, 1);
        C.due("8: flashing of one part", x.code(3), 2);
    }

    private static void litTicks() {
        HarborLight x = new HarborLight();
        x.setCode(2, 0, 1);
        x.setCode(1, 3, 0);
        x.setCode(1, 1, 0);
        String lit = "11100010";
        for (int t = 0; t < 20; t++) {
            C.due("8: lit at " + t, x.code(4), lit.charAt(t % 8) - '0');
            x.advance(1);
        }
        appendedToTheFirst();
        C.due("8: parts count from the tick 0", x.setCode(3, 3, 1), 6);
        C.due("8: lit at 20 by the new one", x.code(4), 1);
        x.advance(1);
        C.due("8: not lit at 21", x.code(4), 0);
    }

    private static void appendedToTheFirst() {
        HarborLight x = new HarborLight();
        x.setCode(1, 2, 0);
        String lit = "1100100";
        for (int t = 0; t < 14; t++) {
            C.due("8: lit by the appended part at " + t, x.code(4), lit.charAt(t % 7) - '0');
            x.advance(1);
        }
    }

    private static void shares() {
        for (int light = 1; light <= 60; light++) {
            HarborLight x = new HarborLight();
            for (int dark = 0; dark <= 60; dark++) {
                x.setCode(light, dark, 1);
                long due = Double.doubleToLongBits((double) light / (double) (light + dark));
                C.due("9: share " + light + " " + dark, x.shareBits(), due);
            }
        }
        HarborLight x = new HarborLight();
        C.due("9: at first", x.shareBits(), Double.doubleToLongBits(0.5));
        x.setCode(1, 60, 0);
        C.due("9: two parts", x.shareBits(), Double.doubleToLongBits(3.0 / 65.0));
    }

    private static void next() {
        HarborLight x = new HarborLight();
        C.due("10: lit now", x.next(1), 0);
        C.due("10: first dark", x.next(0), 2);
        x.advance(2);
        C.due("10: dark now", x.next(0), 2);
        C.due("10: lit in the next period", x.next(1), 4);
        x.setCode(1, 60, 1);
        x.advance(1);
        C.due("10: in 58 ticks", x.next(1), 61);
        x.advance(58);
        C.due("10: now", x.next(1), 61);
        C.due("10: the tick after", x.next(0), 62);
        x.setCode(5, 0, 1);
        C.due("10: never dark", x.next(0), -4);
        C.due("10: always lit", x.next(1), 61);
        C.due("10: below", x.next(-1), -1);
        C.due("10: above", x.next(2), -1);
        C.due("10: nothing changed", x.count(9), 5);
        for (int i = 0; i < 7; i++) {
            x.setCode(60, 0, 0);
        }
        x.undo();
        x.setCode(60, 1, 0);
        C.due("10: last tick of a long period", x.next(0), 425);
    }
}
