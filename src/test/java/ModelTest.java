import java.util.Random;

/** Long runs of mixed calls, always the same ones: the light and the model must answer alike. */
public final class ModelTest {
    private static final int RUNS = 4000;
    private static final int MOST_CALLS = 512;
    // a text and what is asked about it, the longest that a turn may take
    private static final int MOST_CALLS_OF_A_TURN = 50;
    private static final String[] PIECES = {
        "sector", "code", "changer", "lamp", "clear", "change", " dark", " white", " red", " green",
        " bulbs", " burners", " bulb", " burner", ";", ";", ";", " ", " 1", " 0", " 60", " 61", " 63",
        " 64", " 0005", " 12345", " 2000", " 2001", " 5000", " 5001", " 50", " 51", " 100", " 101", "x"
    };
    private static final String[] ITEMS = {
        "sector red 60 3;", "sector dark 5 20;", "sector green 7 7;", "code 1 1 2 2;", "code 3 0;",
        "code 1 1 1 1 1 1 1 1 1 1 1 1 1 1 1 2;", "code 1 1 1 1 1 1 1 1 1 1 1 1 1 1 1 1 1 1;",
        "changer bulbs;", "changer burners;", "lamp bulb 900 4;", "lamp burner 700 6;", "lamp bulb 5 1;",
        "clear 80;", "change 0;", "change 50;", "sector white 64 0;", "clear 101;", "lamp bulb 2001 1;"
    };
    private final Random random;
    private final HarborLight x = new HarborLight();
    private final Model m = new Model();
    private final Check check;
    private final int run;
    private int call;

    private ModelTest(int run, Check check) {
        this.run = run;
        this.random = new Random(run);
        this.check = check;
    }

    public static void main(String[] args) {
        Check check = new Check("ModelTest");
        for (int run = 0; run < RUNS; run++) {
            new ModelTest(run, check).play();
        }
        check.end();
    }

    private void due(String name, long got, long want) {
        call++;
        check.due("run " + run + " call " + call + " " + name, got, want);
    }

    /** A number from a to b, sometimes just outside. */
    private int pick(int a, int b) {
        int n = random.nextInt(40);
        if (n == 0) {
            return a - 1;
        }
        if (n == 1) {
            return b + 1;
        }
        if (n == 2) {
            return random.nextBoolean() ? Integer.MIN_VALUE : Integer.MAX_VALUE;
        }
        return n < 6 ? (n % 2 == 0 ? a : b) : a + random.nextInt(b - a + 1);
    }

    private int place() {
        int reach = new int[] {2, 30, 600, 3000, 10000}[random.nextInt(5)];
        return reach == 10000 ? pick(-10000, 10000) : random.nextInt(2 * reach + 1) - reach;
    }

    private int few(int small, int large) {
        return random.nextInt(4) > 0 ? 1 + random.nextInt(small) : pick(1, large);
    }

    private void play() {
        while (call <= MOST_CALLS - MOST_CALLS_OF_A_TURN) {
            int kind = random.nextInt(12);
            if (kind < 3) {
                change();
            } else if (kind < 5) {
                time();
            } else if (kind < 6) {
                memory();
            } else if (kind < 7) {
                text();
            } else {
                ask();
            }
        }
        check.isTrue("run " + run + " keeps to the calls that a light is made for", call <= MOST_CALLS);
    }

    private void change() {
        int a;
        int b;
        int c;
        switch (random.nextInt(8)) {
            case 0: case 1:
                a = pick(0, 3); b = pick(0, 63); c = pick(0, 63);
                due("paint", x.paint(a, b, c), m.paint(a, b, c));
                break;
            case 2:
                a = few(5, 60); b = few(6, 61) - 1; c = random.nextInt(10) < 8 ? 0 : pick(0, 1);
                due("setCode", x.setCode(a, b, c), m.setCode(a, b, c));
                break;
            case 3:
                if (random.nextInt(4) == 0) {
                    a = pick(0, 1);
                    due("setChanger", x.setChanger(a), m.setChanger(a));
                }
                break;
            case 4: case 5:
                a = random.nextInt(6) == 0 ? pick(0, 1) : m.w.changerKind; b = pick(1, 2000); c = few(30, 5000);
                due("addLamp", x.addLamp(a, b, c), m.addLamp(a, b, c));
                break;
            case 6:
                a = pick(0, 5);
                due("takeLamp", x.takeLamp(a), m.takeLamp(a));
                break;
            default:
                a = pick(0, 1); b = a == 0 ? pick(0, 50) % 7 : pick(1, 100);
                due("set", x.set(a, b), m.set(a, b));
                break;
        }
    }

    private void time() {
        int n = few(40, random.nextInt(6) == 0 ? 2000 : 200);
        if (random.nextInt(3) == 0) {
            due("advance", x.advance(n), m.advance(n));
            return;
        }
        int a = place();
        int b = place();
        int c = place();
        int d = place();
        due("pass", x.pass(a, b, c, d, n), m.pass(a, b, c, d, n));
    }

    private void memory() {
        switch (random.nextInt(5)) {
            case 0: due("store", x.store(), m.store()); break;
            case 1: due("recall", x.recall(), m.recall()); break;
            default: due("undo", x.undo(), m.undo()); break;
        }
    }

    private void text() {
        if (random.nextInt(4) == 0) {
            due("clearText", x.clearText(), m.clearText());
        }
        String piece = ITEMS[random.nextInt(ITEMS.length)];
        if (random.nextInt(3) == 0) {
            piece = PIECES[random.nextInt(PIECES.length)] + PIECES[random.nextInt(PIECES.length)];
        }
        for (int i = 0; i < piece.length(); i++) {
            if (random.nextInt(150) > 0) {
                int c = random.nextInt(150) > 0 ? piece.charAt(i) : pick(32, 126);
                due("type", x.type(c), m.type(c));
            }
        }
        due("fault 0", x.fault(0), m.fault(0));
        due("fault 1", x.fault(1), m.fault(1));
        if (random.nextInt(3) == 0) {
            due("load", x.load(), m.load());
        }
    }

    private void ask() {
        int a = pick(0, 12);
        int b = pick(0, 5);
        int c = place();
        int d = place();
        switch (random.nextInt(14)) {
            case 0: due("color", x.color(pickTwice(0, 63)), m.color(last)); break;
            case 1: due("sector " + a + " " + b, x.sector(a, b), m.sector(a, b)); break;
            case 2: due("direction " + c + " " + d, x.direction(c, d), m.direction(c, d)); break;
            case 3: due("again " + c + " " + d, x.again(c, d), m.direction(c, d)); break;
            case 4: due("code " + b, x.code(b), m.code(b)); break;
            case 5: due("shareBits", x.shareBits(), m.shareBits()); break;
            case 6: due("next", x.next(pickTwice(0, 1)), m.next(last)); break;
            case 7: due("lamp " + b, x.lamp(pickTwice(0, 5), b), m.lamp(last, b)); break;
            case 8: due("rangeBits", x.rangeBits(pickTwice(0, 3)), m.rangeBits(last)); break;
            case 9: due("account " + a, x.account(a), m.account(a)); break;
            case 10: due("sees " + c + " " + d, x.sees(c, d), m.sees(c, d)); break;
            case 11: due("entry " + b, x.entry(pickTwice(0, 41), b), m.entry(last, b)); break;
            case 12: due("seen", x.seen(pickTwice(0, 3)), m.seen(last)); break;
            default: due("compare " + b, x.compare(b), m.compare(b)); break;
        }
        due("count " + a, x.count(a), m.count(a));
        if (random.nextInt(25) == 0) {
            due("untilIdle", x.untilIdle(), m.untilIdle());
        }
    }

    private int last;

    private int pickTwice(int a, int b) {
        last = pick(a, b);
        return last;
    }
}
