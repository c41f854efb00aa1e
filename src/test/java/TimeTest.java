/** Promises 17 to 20: ticks, lamp changes, accounts and numbers. */
public final class TimeTest {
    private static final Check C = new Check("TimeTest");

    public static void main(String[] args) {
        bulbs();
        burners();
        change();
        changeOfNoTicks();
        changeGoesOn();
        nextPlace();
        aroundThePlaces();
        lampComesLate();
        wrongTicks();
        lastTick();
        lastTickOfAPassage();
        counts();
        goodLamps();
        untilIdle();
        longUntilIdle();
        C.end();
    }

    private static void accounts(HarborLight x, String run, int... due) {
        for (int what = 0; what < due.length; what++) {
            C.due("18: account " + what + " " + run, x.account(what), due[what]);
        }
    }

    private static HarborLight fixed(int... lives) {
        HarborLight x = new HarborLight();
        x.setCode(1, 0, 1);
        for (int life : lives) {
            x.addLamp(0, 100, life);
        }
        return x;
    }

    private static void bulbs() {
        HarborLight x = new HarborLight();
        x.addLamp(0, 100, 50);
        C.due("17: lit of 1", x.advance(1), 1);
        C.due("17: lit of 2 to 5", x.advance(4), 2);
        C.due("17: use of a bulb", x.lamp(0, 3), 3);
        accounts(x, "of a bulb", 5, 3, 2, 0, 0, 0, 0, 0);
        C.due("17: lit of 2000", x.advance(2000), 47);
        accounts(x, "burnt out", 2005, 50, 48, 0, 1907, 0, 0, 0);
        C.due("17: changes", x.count(9), 4);
    }

    private static void burners() {
        HarborLight x = new HarborLight();
        x.setChanger(1);
        x.addLamp(1, 100, 50);
        x.setCode(1, 6, 1);
        // lit at 0, 7, 14, 21; burning while unlit at 4, 8, 12, 16, 20
        int[] uses = {1, 1, 1, 1, 2, 2, 2, 3, 4, 4, 4, 4, 5, 5, 6, 6, 7, 7, 7, 7, 8, 9};
        for (int t = 0; t < uses.length; t++) {
            C.due("17: lit " + t, x.advance(1), t % 7 == 0 ? 1 : 0);
            C.due("17: use of a burner " + t, x.lamp(0, 3), uses[t]);
        }
        accounts(x, "of a burner", 22, 4, 18, 0, 0, 0);
    }

    private static void change() {
        HarborLight x = fixed(1, 2);
        x.advance(1);
        C.due("17: burnt out", x.lamp(0, 5), 1);
        C.due("17: still at its place", x.count(3), 0);
        C.due("17: tick of change", x.advance(1), 0);
        C.due("17: the next place", x.count(3), 1);
        C.due("17: ticks of change to come", x.count(4), 2);
        accounts(x, "in a change", 2, 1, 0, 1, 0, 1);
        x.advance(2);
        C.due("17: none to come", x.count(4), 0);
        accounts(x, "behind a change", 4, 1, 0, 3, 0, 1);
        C.due("17: lit again", x.advance(3), 2);
        accounts(x, "idle", 7, 3, 0, 3, 1, 1);
        C.due("17: place stays", x.count(3), 1);
    }

    private static void changeOfNoTicks() {
        HarborLight x = fixed(2, 3, 1);
        x.set(0, 0);
        C.due("17: all lit", x.advance(6), 6);
        accounts(x, "of no ticks", 6, 6, 0, 0, 0, 2);
        C.due("17: place", x.count(3), 2);
        x.set(0, 1);
        x.addLamp(0, 100, 9);
        C.due("17: change of one tick", x.advance(3), 2);
        accounts(x, "of one tick", 9, 8, 0, 1, 0, 3);
    }

    private static void changeGoesOn() {
        HarborLight x = fixed(1, 9, 9);
        x.set(0, 5);
        x.advance(2);
        x.takeLamp(1);
        x.set(0, 1);
        C.due("17: ticks to come stay", x.count(4), 4);
        x.addLamp(0, 100, 7);
        x.takeLamp(1);
        x.advance(4);
        accounts(x, "gone on", 6, 1, 0, 5, 0, 1);
        C.due("17: place of the lamp taken out", x.count(3), 1);
        x.advance(2);
        accounts(x, "changed again", 8, 2, 0, 6, 0, 2);
        C.due("17: next lamp", x.count(3), 2);
    }

    private static void nextPlace() {
        HarborLight x = fixed(2, 1, 1, 4);
        x.set(0, 0);
        x.takeLamp(1);
        x.advance(3);
        C.due("17: empty place left out", x.count(3), 2);
        x.advance(1);
        C.due("17: place 3", x.count(3), 3);
        x.addLamp(0, 100, 1);
        x.advance(3);
        C.due("17: no change before it is burnt out", x.count(3), 3);
        x.advance(1);
        C.due("17: a lower place", x.count(3), 1);
        accounts(x, "of places", 8, 8, 0, 0, 0, 3);
    }

    private static void aroundThePlaces() {
        HarborLight x = fixed(1, 1, 1, 1, 1, 1);
        x.set(0, 0);
        x.advance(6);
        C.due("17: last place", x.count(3), 5);
        C.due("17: no good lamps", x.count(2), 0);
        x.advance(1);
        accounts(x, "of six", 7, 6, 0, 0, 1, 5);
        x.takeLamp(0);
        x.takeLamp(1);
        x.addLamp(0, 100, 1);
        x.addLamp(0, 100, 1);
        x.advance(1);
        C.due("17: 5 is followed by 0", x.count(3), 0);
        x.advance(1);
        C.due("17: then 1", x.count(3), 1);
    }

    private static void lampComesLate() {
        HarborLight x = new HarborLight();
        C.due("17: no lamp", x.advance(5), 0);
        accounts(x, "without lamps", 5, 0, 0, 0, 5, 0);
        x.addLamp(0, 100, 9);
        C.due("17: at the present place, without a change", x.advance(4), 2);
        accounts(x, "with a lamp", 9, 2, 2, 0, 5, 0);
        x.addLamp(0, 100, 9);
        x.takeLamp(0);
        x.advance(1);
        C.due("17: taken out: change", x.count(3), 1);
        C.due("17: two ticks to come", x.count(4), 2);
        C.due("17: two of change, two lit, one unlit", x.advance(5), 2);
        accounts(x, "in the end", 15, 4, 3, 3, 5, 1);
    }

    private static void wrongTicks() {
        HarborLight x = new HarborLight();
        for (int wrong : new int[] {0, -1, 2001, Integer.MIN_VALUE, Integer.MAX_VALUE}) {
            C.due("17: wrong " + wrong, x.advance(wrong), -1);
        }
        C.due("17: no change", x.count(9), 0);
        C.due("18: below", x.account(-1), -1);
        C.due("18: above", x.account(8), -1);
        C.due("19: below", x.count(-1), -1);
        C.due("19: above", x.count(12), -1);
        C.due("19: far", x.count(Integer.MAX_VALUE), -1);
    }

    /** A light at the tick 999999, after 500 of its 512 calls. */
    private static HarborLight late() {
        HarborLight x = new HarborLight();
        for (int i = 0; i < 499; i++) {
            x.advance(2000);
        }
        x.advance(1999);
        return x;
    }

    private static void lastTick() {
        HarborLight x = late();
        C.due("17: too many by one", x.advance(2), -3);
        C.due("17: wrong before too many", x.advance(2001), -1);
        C.due("19: no change", x.count(9), 5);
        C.due("17: the last tick", x.advance(1), 0);
        C.due("17: none left", x.advance(1), -3);
        C.due("18: all ticks", x.account(0), 1000000);
        C.due("28: undone", x.undo(), 4);
        C.due("17: the last tick again", x.advance(1), 0);
        C.due("18: all ticks again", x.account(0), 1000000);
    }

    private static void lastTickOfAPassage() {
        HarborLight x = late();
        C.due("22: too many by one", x.pass(1, 1, 2, 2, 2), -3);
        C.due("22: wrong before too many", x.pass(10001, 1, 2, 2, 2), -1);
        C.due("22: the last tick", x.pass(1, 1, 2, 2, 1), 1);
        C.due("22: none left", x.pass(1, 1, 2, 2, 1), -3);
        C.due("17: none left", x.advance(1), -3);
        C.due("18: all ticks", x.account(0), 1000000);
        C.due("10: beyond the last tick", x.next(0), 1000002);
        C.due("21: still to be asked", x.sees(1, 1), 0);
        C.due("20: still to be asked", x.untilIdle(), 0);
    }

    private static void counts() {
        HarborLight x = fixed(1, 2, 5);
        x.set(1, 77);
        x.paint(2, 5, 6);
        x.advance(2);
        int[] due = {2, 3, 2, 1, 2, 0, 3, 77, 0, 5, 0, 0};
        for (int what = 0; what < due.length; what++) {
            C.due("19: count " + what, x.count(what), due[what]);
        }
        x.pass(0, 5, 0, 9, 9);
        x.type('x');
        x.store();
        x.setChanger(1);
        int[] then = {2, 0, 0, 0, 0, 1, 3, 77, 4, 5, 1, 1};
        for (int what = 0; what < then.length; what++) {
            C.due("19: count then " + what, x.count(what), then[what]);
        }
    }

    private static void goodLamps() {
        HarborLight x = fixed(1, 2, 3);
        C.due("19: good lamps", x.count(2), 3);
        x.set(0, 0);
        x.advance(1);
        C.due("19: one burnt out", x.count(2), 2);
        x.advance(1);
        C.due("19: one used, but good", x.count(2), 2);
        x.takeLamp(2);
        C.due("19: one taken out", x.count(2), 1);
        C.due("19: two lamps", x.count(1), 2);
    }

    private static void untilIdle() {
        HarborLight x = new HarborLight();
        C.due("20: no lamp", x.untilIdle(), 0);
        x.addLamp(0, 100, 3);
        C.due("20: lit 0, 1, 4", x.untilIdle(), 5);
        x.addLamp(0, 100, 2);
        C.due("20: change 5 to 7, lit 8, 9", x.untilIdle(), 10);
        x.advance(4);
        C.due("20: from the tick 4", x.untilIdle(), 6);
        x.advance(2);
        C.due("20: within the change", x.untilIdle(), 4);
        C.due("20: nothing changes", x.account(0), 6);
        C.due("20: lamps stay", x.lamp(1, 3), 0);
        C.due("20: history stays", x.count(9), 4);
        x.takeLamp(1);
        C.due("20: the change goes on", x.untilIdle(), 2);
    }

    private static void longUntilIdle() {
        HarborLight x = fixed(5000, 5000, 5000, 4999);
        x.set(0, 0);
        C.due("20: the last one of 20000", x.untilIdle(), 19999);
        x.takeLamp(3);
        x.addLamp(0, 100, 5000);
        C.due("20: one behind", x.untilIdle(), -4);
        x.advance(1);
        C.due("20: nearer by one", x.untilIdle(), 19999);
    }
}
