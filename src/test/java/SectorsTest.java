/** Promises 1 to 6: a new light, its sectors and directions. */
public final class SectorsTest {
    private static final Check C = new Check("SectorsTest");
    private static final int MIN = Integer.MIN_VALUE;
    private static final int MAX = Integer.MAX_VALUE;
    private static final int[] SINES = {
        0, 98, 195, 290, 383, 471, 556, 634, 707, 773, 831, 882, 924, 957, 981, 995, 1000
    };

    public static void main(String[] args) {
        newLight();
        paint();
        paintAround();
        color();
        sector();
        wrongSector();
        direction();
        directionsAgree();
        C.end();
    }

    private static void newLight() {
        HarborLight x = new HarborLight();
        for (int k = 0; k < 64; k++) {
            C.due("1: color " + k, x.color(k), 1);
        }
        int[] counts = {1, 0, 0, 0, 0, 0, 3, 50, 0, 0, 0, 0};
        for (int what = 0; what < 12; what++) {
            C.due("1: count " + what, x.count(what), counts[what]);
        }
        for (int what = 0; what < 8; what++) {
            C.due("1: account " + what, x.account(what), 0);
        }
        int[] code = {1, 4, 2, 1, 1};
        for (int what = 0; what < 5; what++) {
            C.due("1: code " + what, x.code(what), code[what]);
        }
        for (int place = 0; place < 6; place++) {
            C.due("1: lamp " + place, x.lamp(place, 0), -4);
        }
        C.due("1: undo", x.undo(), -2);
        C.due("1: recall", x.recall(), -2);
        C.due("1: seen", x.seen(0), -2);
        C.due("1: entry", x.entry(0, 0), -4);
        C.due("1: untilIdle", x.untilIdle(), 0);
    }

    private static void paint() {
        HarborLight x = new HarborLight();
        C.due("2: one direction", x.paint(3, 20, 20), 1);
        C.due("2: before it", x.color(19), 1);
        C.due("2: at it", x.color(20), 3);
        C.due("2: behind it", x.color(21), 1);
        C.due("2: only those that change", x.paint(3, 18, 22), 4);
        C.due("2: none changes", x.paint(3, 18, 22), 0);
        C.due("2: it counts as a change", x.count(9), 3);
        C.due("2: all", x.paint(0, 0, 63), 64);
        int[][] wrong = {{-1, 0, 0}, {4, 0, 0}, {0, -1, 0}, {0, 64, 0}, {0, 0, -1}, {0, 0, 64},
            {MIN, 0, 0}, {0, MAX, 0}, {0, 0, MIN}};
        for (int[] w : wrong) {
            C.due("2: wrong argument", x.paint(w[0], w[1], w[2]), -1);
        }
        C.due("2: an error is no change", x.count(9), 4);
        C.due("2: all dark", x.count(0), 1);
    }

    private static void paintAround() {
        HarborLight x = new HarborLight();
        C.due("2: over 63", x.paint(2, 62, 1), 4);
        for (int k = 0; k < 64; k++) {
            C.due("2: color " + k, x.color(k), k >= 62 || k <= 1 ? 2 : 1);
        }
        C.due("2: around from 10 to 9", x.paint(3, 10, 9), 64);
        C.due("2: from 63 to 0", x.paint(0, 63, 0), 2);
    }

    private static void color() {
        HarborLight x = new HarborLight();
        x.paint(2, 0, 0);
        x.paint(3, 63, 63);
        C.due("3: first", x.color(0), 2);
        C.due("3: last", x.color(63), 3);
        for (int wrong : new int[] {-1, 64, MIN, MAX}) {
            C.due("3: wrong " + wrong, x.color(wrong), -1);
        }
    }

    private static void sector() {
        HarborLight x = new HarborLight();
        C.due("4: whole circle, begin", x.sector(0, 0), 0);
        C.due("4: whole circle, directions", x.sector(0, 1), 64);
        C.due("4: whole circle, color", x.sector(0, 2), 1);
        C.due("4: no other one", x.sector(1, 0), -4);
        x.paint(2, 60, 3);
        x.paint(0, 10, 10);
        x.paint(3, 11, 11);
        int[][] due = {{4, 6, 1}, {10, 1, 0}, {11, 1, 3}, {12, 48, 1}, {60, 8, 2}};
        C.due("4: so many", x.count(0), due.length);
        for (int sector = 0; sector < due.length; sector++) {
            for (int what = 0; what < 3; what++) {
                C.due("4: sector " + sector + " " + what, x.sector(sector, what), due[sector][what]);
            }
        }
        C.due("4: not so many", x.sector(due.length, 2), -4);
        x.paint(1, 12, 9);
        x.paint(1, 0, 63);
        C.due("4: one again", x.sector(0, 1), 64);
        x.paint(2, 5, 5);
        C.due("4: all but one, begin", x.sector(1, 0), 6);
        C.due("4: all but one, directions", x.sector(1, 1), 63);
        x.paint(2, 0, 31);
        C.due("4: half, begin", x.sector(0, 0), 0);
        C.due("4: half, directions", x.sector(0, 1), 32);
    }

    private static void wrongSector() {
        HarborLight x = new HarborLight();
        C.due("4: negative", x.sector(-1, 0), -1);
        C.due("4: very negative", x.sector(MIN, 0), -1);
        C.due("4: what below", x.sector(0, -1), -1);
        C.due("4: what above", x.sector(0, 3), -1);
        C.due("4: far too many", x.sector(MAX, 2), -4);
        C.due("4: wrong what first", x.sector(MAX, 3), -1);
        for (int k = 0; k < 64; k += 2) {
            x.paint(2, k, k);
        }
        C.due("4: the most", x.count(0), 64);
        C.due("4: the last one", x.sector(63, 0), 63);
        C.due("4: none behind", x.sector(64, 0), -4);
    }

    private static int s(int k) {
        int turned = k & 63;
        int half = turned & 31;
        int value = SINES[half <= 16 ? half : 32 - half];
        return turned < 32 ? value : -value;
    }

    private static void both(int x, int y, int want) {
        HarborLight light = new HarborLight();
        C.due("5: direction " + x + " " + y, light.direction(x, y), want);
        C.due("6: again " + x + " " + y, light.again(x, y), want);
    }

    private static void direction() {
        both(0, 1, 0);
        both(1, 1, 8);
        both(1, 0, 16);
        both(1, -1, 24);
        both(0, -1, 32);
        both(-1, -1, 40);
        both(-1, 0, 48);
        both(-1, 1, 56);
        both(-1, 10000, 63);
        both(1, 10000, 0);
        both(10000, 10000, 8);
        both(-10000, -10000, 40);
        both(0, 0, -4);
        for (int far : new int[] {-10001, 10001, MIN, MAX}) {
            both(far, 0, -1);
            both(0, far, -1);
        }
        for (int k = 0; k < 64; k++) {
            both(s(k), s(k + 16), k);
            // a hair clockwise and a hair counterclockwise of the tenfold vector
            int x = 10 * s(k);
            int y = 10 * s(k + 16);
            int dx = Integer.signum(s(k + 16));
            int dy = -Integer.signum(s(k));
            if (Math.abs(x + dx) <= 10000 && Math.abs(y + dy) <= 10000) {
                both(x + dx, y + dy, k);
            }
            if (Math.abs(x - dx) <= 10000 && Math.abs(y - dy) <= 10000) {
                both(x - dx, y - dy, (k + 63) & 63);
            }
        }
    }

    private static void directionsAgree() {
        for (int x = -40; x <= 40; x++) {
            HarborLight light = new HarborLight();
            for (int y = -40; y <= 40; y++) {
                int k = light.direction(x, y);
                C.due("6: again " + x + " " + y, light.again(x, y), k);
                if (x == 0 && y == 0) {
                    continue;
                }
                boolean behind = x * s(k + 16) - y * s(k) >= 0;
                boolean ahead = x * s(k + 17) - y * s(k + 1) < 0;
                C.isTrue("5: between its vectors " + x + " " + y, behind && ahead);
            }
        }
    }
}
