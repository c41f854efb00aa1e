/** Promises 25 to 28: the stored state and the history. */
public final class StatesTest {
    private static final Check C = new Check("StatesTest");

    public static void main(String[] args) {
        store();
        storeAgain();
        logIsStored();
        compare();
        circleIsCompared();
        compareTicks();
        undo();
        eachChange();
        fiveStates();
        whatIsNoChange();
        recallCanBeUndone();
        storeIsNotUndone();
        emptyLoad();
        C.end();
    }

    /** A light in which everything is different from a new one. */
    private static HarborLight busy() {
        HarborLight x = new HarborLight();
        x.setChanger(1);
        x.addLamp(1, 900, 4);
        x.addLamp(1, 800, 30);
        x.paint(2, 60, 5);
        x.setCode(2, 1, 0);
        x.set(0, 4);
        x.set(1, 90);
        x.pass(-50, 3, 50, 3, 9);
        return x;
    }

    private static void disturb(HarborLight x) {
        x.pass(0, 5, 5, 0, 30);
        x.paint(3, 30, 40);
        x.setCode(7, 0, 1);
        x.set(0, 9);
        x.set(1, 10);
        x.takeLamp(1);
        x.setChanger(0);
        x.addLamp(0, 5, 5);
        x.advance(20);
    }

    private static void store() {
        HarborLight x = busy();
        String before = Check.look(x);
        C.due("26: nothing stored", x.recall(), -2);
        C.due("25: tick", x.store(), 9);
        C.due("25: stored", x.count(11), 1);
        C.due("25: no change", x.count(9), 5);
        C.isTrue("25: nothing else changes", before.equals(Check.look(x)));
        x.type('c');
        disturb(x);
        C.due("26: tick then", x.recall(), 9);
        C.isTrue("26: as it was", before.equals(Check.look(x)));
        C.due("26: the text stays", x.count(10), 1);
        C.due("26: still stored", x.count(11), 1);
        C.due("26: again", x.recall(), 9);
        C.due("26: states", x.count(9), 5);
    }

    private static void storeAgain() {
        HarborLight x = new HarborLight();
        C.due("25: new light", x.store(), 0);
        x.advance(5);
        C.due("25: in its place", x.store(), 5);
        x.advance(5);
        C.due("26: the latter", x.recall(), 5);
        x.paint(2, 0, 9);
        C.due("26: the stored state has not changed with it", x.recall(), 5);
        C.due("26: color", x.color(3), 1);
    }

    /** Here the log gets all its rows anew before it is restored. */
    private static void logIsStored() {
        HarborLight x = busy();
        x.setChanger(0);
        x.addLamp(0, 1000, 5000);
        x.setCode(1, 1, 1);
        x.pass(0, 5, 5, 0, 60);
        x.store();
        String before = Check.look(x);
        x.paint(3, 0, 63);
        x.pass(5, 0, 0, -5, 101);
        x.undo();
        x.undo();
        C.isTrue("28: log", before.equals(Check.look(x)));
        x.paint(2, 0, 63);
        x.pass(5, 0, 0, -5, 101);
        x.recall();
        C.isTrue("26: log", before.equals(Check.look(x)));
    }

    private static void circleIsCompared() {
        HarborLight x = new HarborLight();
        x.store();
        x.paint(2, 0, 0);
        C.due("27: first direction", x.compare(0), 1);
        x.paint(2, 63, 63);
        C.due("27: last direction", x.compare(0), 2);
        x.paint(2, 0, 63);
        C.due("27: all", x.compare(0), 64);
        x.setCode(1, 2, 1);
        x.setCode(3, 4, 0);
        x.store();
        x.setCode(2, 1, 1);
        x.setCode(3, 4, 0);
        C.due("27: only the first part is different", x.compare(1), 1);
        x.setCode(1, 2, 1);
        x.setCode(3, 5, 0);
        C.due("27: only the last dark ticks are different", x.compare(1), 1);
    }

    private static void compare() {
        HarborLight x = new HarborLight();
        C.due("27: nothing stored", x.compare(0), -2);
        C.due("27: wrong before nothing stored", x.compare(4), -1);
        C.due("27: below", x.compare(-1), -1);
        x.addLamp(0, 10, 10);
        x.addLamp(0, 20, 20);
        x.addLamp(0, 30, 30);
        x.setCode(1, 2, 1);
        x.setCode(3, 4, 0);
        x.store();
        int[] same = {0, 0, 0, 1000000};
        for (int what = 0; what < 4; what++) {
            C.due("27: same " + what, x.compare(what), same[what]);
        }
        x.paint(2, 10, 14);
        C.due("27: five directions", x.compare(0), 5);
        x.paint(1, 12, 12);
        C.due("27: four", x.compare(0), 4);
        x.setCode(3, 4, 1);
        x.setCode(1, 2, 0);
        C.due("27: other order of parts", x.compare(1), 1);
        x.setCode(1, 2, 1);
        C.due("27: a part less", x.compare(1), 1);
        x.setCode(3, 4, 0);
        C.due("27: the same parts again", x.compare(1), 0);
        x.setCode(1, 1, 0);
        C.due("27: a part more", x.compare(1), 1);
        x.setCode(1, 3, 1);
        x.setCode(2, 4, 0);
        C.due("27: the same period", x.compare(1), 1);
        places();
    }

    private static void places() {
        HarborLight x = new HarborLight();
        x.addLamp(0, 10, 10);
        x.addLamp(0, 20, 20);
        x.addLamp(0, 30, 30);
        x.store();
        x.takeLamp(2);
        C.due("27: one empty", x.compare(2), 1);
        x.addLamp(0, 30, 30);
        C.due("27: a lamp just like it", x.compare(2), 0);
        x.addLamp(0, 40, 40);
        C.due("27: one not empty", x.compare(2), 1);
        x.takeLamp(1);
        x.addLamp(0, 21, 20);
        C.due("27: other intensity", x.compare(2), 2);
        x.takeLamp(2);
        x.addLamp(0, 30, 31);
        C.due("27: other life", x.compare(2), 3);
        x.advance(1);
        C.due("27: other use", x.compare(2), 4);
        x.setChanger(1);
        C.due("27: all empty", x.compare(2), 3);
        x.addLamp(1, 10, 10);
        C.due("27: other kind", x.compare(2), 3);
        x.setChanger(0);
        x.store();
        x.setChanger(1);
        C.due("27: empty places are alike", x.compare(2), 0);
    }

    private static void compareTicks() {
        HarborLight x = new HarborLight();
        x.advance(30);
        x.store();
        x.advance(12);
        C.due("27: later", x.compare(3), 1000012);
        x.undo();
        x.undo();
        C.due("27: earlier", x.compare(3), 999970);
    }

    private static void undo() {
        HarborLight x = busy();
        C.due("28: five", x.count(9), 5);
        String before = Check.look(x);
        x.addLamp(1, 5, 5);
        C.due("28: four left", x.undo(), 4);
        C.isTrue("28: lamp", before.equals(Check.look(x)));
        x.type('z');
        x.pass(0, 5, 5, 0, 30);
        C.due("28: text is none of it", x.undo(), 4);
        C.isTrue("28: passage", before.equals(Check.look(x)));
        C.due("28: text stays", x.count(10), 1);
        C.due("28: the passage before", x.undo(), 3);
        C.due("28: no passage", x.seen(0), -2);
        C.due("28: clear", x.undo(), 2);
        C.due("28: clear was", x.count(7), 50);
        C.due("28: change", x.undo(), 1);
        C.due("28: change was", x.count(6), 3);
        C.due("28: code", x.undo(), 0);
        C.due("28: code was", x.code(0), 1);
        C.due("28: empty", x.undo(), -2);
        C.due("28: sectors stay", x.count(0), 2);
    }

    private static void isUndone(String call, HarborLight x, String before, int answer) {
        C.isTrue("28: " + call + " is a change", answer >= 0 && !before.equals(Check.look(x)));
        C.due("28: undo of " + call, x.undo(), 4);
        C.isTrue("28: as before " + call, before.equals(Check.look(x)));
    }

    private static void eachChange() {
        HarborLight x = busy();
        String before = Check.look(x);
        isUndone("paint", x, before, x.paint(3, 50, 20));
        x = busy();
        isUndone("setCode", x, before, x.setCode(5, 5, 0));
        x = busy();
        isUndone("setCode of a new one", x, before, x.setCode(5, 5, 1));
        x = busy();
        isUndone("setChanger", x, before, x.setChanger(0));
        x = busy();
        isUndone("addLamp", x, before, x.addLamp(1, 5, 5));
        x = busy();
        isUndone("takeLamp", x, before, x.takeLamp(1));
        x = busy();
        isUndone("set of change", x, before, x.set(0, 50));
        x = busy();
        isUndone("set of clear", x, before, x.set(1, 100));
        x = busy();
        isUndone("advance", x, before, x.advance(11));
        x = busy();
        isUndone("pass", x, before, x.pass(1, 1, -1, -1, 30));
        x = busy();
        Check.type(x, "sector dark 0 63;code 5 5;clear 1;change 9;lamp burner 3 3;");
        isUndone("load", x, before, x.load());
    }

    private static void fiveStates() {
        HarborLight x = new HarborLight();
        for (int i = 1; i <= 12; i++) {
            x.set(1, i);
            C.due("28: states " + i, x.count(9), Math.min(i, 5));
        }
        for (int i = 11; i >= 7; i--) {
            C.due("28: left", x.undo(), i - 7);
            C.due("28: clear", x.count(7), i);
        }
        C.due("28: no more", x.undo(), -2);
        C.due("28: clear stays", x.count(7), 7);
        x.set(1, 99);
        C.due("28: recorded again", x.count(9), 1);
        x.undo();
        C.due("28: back", x.count(7), 7);
    }

    private static void whatIsNoChange() {
        HarborLight x = new HarborLight();
        x.paint(0, 0, 0);
        x.store();
        x.type('q');
        x.fault(0);
        x.load();
        x.clearText();
        x.sees(1, 1);
        x.untilIdle();
        x.compare(0);
        x.set(1, 0);
        x.takeLamp(0);
        x.addLamp(1, 1, 1);
        C.due("28: one change only", x.count(9), 1);
        x.paint(0, 0, 0);
        x.set(1, 50);
        C.due("28: a call that alters nothing is a change", x.count(9), 3);
    }

    private static void recallCanBeUndone() {
        HarborLight x = new HarborLight();
        x.store();
        x.paint(2, 0, 31);
        x.advance(7);
        x.recall();
        C.due("28: recalled", x.account(0), 0);
        C.due("28: recall is a change", x.undo(), 2);
        C.due("28: tick", x.account(0), 7);
        C.due("28: sectors", x.count(0), 2);
    }

    private static void storeIsNotUndone() {
        HarborLight x = new HarborLight();
        x.advance(3);
        x.store();
        x.undo();
        C.due("28: still stored", x.count(11), 1);
        C.due("26: tick", x.recall(), 3);
    }

    private static void emptyLoad() {
        HarborLight x = new HarborLight();
        C.due("32: empty text", x.load(), 0);
        C.due("28: it is a change", x.undo(), 0);
    }
}
