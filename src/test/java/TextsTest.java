/** Promises 29 to 32: texts, their faults and loading. */
public final class TextsTest {
    private static final Check C = new Check("TextsTest");
    private static final String EIGHT = "code 1 1 1 1 1 1 1 1 1 1 1 1 1 1 1 1";

    public static void main(String[] args) {
        type();
        wrongFault();
        words();
        numbers();
        ranges();
        lamps();
        codes();
        ends();
        order();
        laterItems();
        load();
        loadColors();
        oldSigns();
        loadLamps();
        loadIsOneChange();
        C.end();
    }

    private static void type() {
        HarborLight x = new HarborLight();
        for (int wrong : new int[] {31, 127, -1, 256, Integer.MIN_VALUE, Integer.MAX_VALUE}) {
            C.due("29: wrong " + wrong, x.type(wrong), -1);
        }
        C.due("29: least", x.type(32), 1);
        C.due("29: greatest", x.type(126), 2);
        for (int length = 3; length <= 120; length++) {
            C.due("29: length", x.type('a'), length);
        }
        C.due("29: full", x.type('a'), -3);
        C.due("29: wrong before full", x.type(31), -1);
        C.due("19: length", x.count(10), 120);
        C.due("29: no change", x.count(9), 0);
        C.due("31: a blank begins", x.fault(1), 1);
        C.due("30: length it had", x.clearText(), 120);
        C.due("30: empty", x.clearText(), 0);
        C.due("31: empty", x.fault(0), -4);
        C.due("29: first again", x.type('c'), 1);
        fault("letters all over it", "a".repeat(120), 0, 1);
    }

    private static void wrongFault() {
        HarborLight x = Check.withText("x");
        C.due("31: below", x.fault(-1), -1);
        C.due("31: above", x.fault(2), -1);
        C.due("31: empty, wrong", new HarborLight().fault(2), -1);
        C.due("31: empty, reason", new HarborLight().fault(1), -4);
        C.due("32: fault", x.load(), -2);
        C.due("32: no change", x.count(9), 0);
        C.due("32: text stays", x.count(10), 1);
    }

    private static void fault(String run, String text, int index, int reason) {
        HarborLight x = Check.withText(text);
        C.due("31: index of " + run + " «" + text + "»", x.fault(0), index);
        C.due("31: reason of " + run + " «" + text + "»", x.fault(1), reason);
        C.due("32: load of " + run, x.load(), -2);
    }

    private static void good(String text, int items) {
        HarborLight x = Check.withText(text);
        C.due("31: «" + text + "»", x.fault(0), -4);
        C.due("31: no reason «" + text + "»", x.fault(1), -4);
        C.due("32: «" + text + "»", x.load(), items);
        C.due("32: text stays", x.count(10), text.length());
    }

    private static void words() {
        for (String text : new String[] {";", "x;", "Clear 5;", "clea 5;", "cleary 5;", "sectors red 1 1;",
            " clear 5;", "sectorred 1 1;", "sector", "sector;", "sector ;", "sector 1 1;", "sector blue 1 1;",
            "sector  red 1 1;", "sector redd 1 1;", "sector re 1 1;", "sector Red 1 1;", "changer;",
            "changer bulb;", "changer burner;", "changer ;", "changers bulbs;", "lamp bulbs 1 1;", "lamp 1 1;",
            "lamp burners 1 1;", "lamp,bulb 1 1;", "codes 1 1;", "1 1;", "sector1 1;", "\u007e", "clearz 5;", "aclear 5;",
            "dlear 5;", "clead 5;", "sector bark 1 1;", "sector dara 1 1;", "lamp aulb 1 1;", "changer 5;"}) {
            fault("words", text, 0, 1);
        }
        for (String text : new String[] {"sector dark 0 63;", "sector white 0 63;", "sector red 0 63;",
            "sector green 0 63;", "code 1 0;", "changer bulbs;", "changer burners;", "lamp bulb 1 1;",
            "clear 1;", "change 0;"}) {
            good(text, 1);
        }
    }

    private static void numbers() {
        for (String text : new String[] {"sector red", "sector red ", "sector red 1", "sector red 1;",
            "sector red 1 ", "sector red  1 1;", "sector red 1  1;", "sector red 1,1;", "sector red -1 1;",
            "sector red 00001 1;", "lamp bulb;", "lamp bulb 1;", "lamp bulb 12345 1;", "lamp bulb 1 x;",
            "clear;", "clear ;", "clear x;", "clear5;", "change", "change -1;", "code;", "code ;", "code 1;",
            "code 1 1 1;", "code 1 1 ;", "code 1 1 x;", "code1 1;", "code 1  1;", "code 00001 1;",
            EIGHT + " 1;", EIGHT + " ;"}) {
            fault("numbers", text, 0, 2);
        }
        good("sector red 0001 0063;clear 0100;change 0050;lamp bulb 0001 0001;code 0060 0000;", 5);
    }

    private static void ranges() {
        for (String text : new String[] {"sector red 64 0;", "sector red 0 64;", "sector red 0 9999;",
            "lamp bulb 0 1;", "lamp bulb 2001 1;", "lamp bulb 1 0;", "lamp bulb 1 5001;", "clear 0;",
            "clear 101;", "change 51;", "code 0 1;", "code 61 1;", "code 1 61;", "code 1 1 0 0;",
            "code 1 1 1 61;", "sector red 1 12345;", EIGHT + " 1 61;"}) {
            fault("ranges", text, 0, 3);
        }
        good("sector red 63 0;lamp bulb 2000 5000;clear 100;change 50;code 60 60 1 0;", 5);
    }

    private static void lamps() {
        fault("kinds", "lamp burner 1 1;", 0, 4);
        fault("kinds later", "changer burners;lamp bulb 1 1;", 16, 4);
        String lamp = "lamp bulb 1 1;";
        good(lamp.repeat(6), 6);
        fault("seven lamps", lamp.repeat(7), 84, 5);
        fault("seven lamps, but none fits", lamp.repeat(6) + "lamp burner 1 1;", 84, 4);
        HarborLight x = new HarborLight();
        x.addLamp(0, 1, 1);
        Check.type(x, lamp.repeat(6));
        C.due("31: one lamp is there now", x.fault(0), 70);
        x.takeLamp(0);
        C.due("31: and now it is not", x.fault(0), -4);
        x.setChanger(1);
        C.due("31: now they do not fit", x.fault(1), 4);
        C.due("31: the first of them", x.fault(0), 0);
    }

    private static void codes() {
        good(EIGHT + ";", 1);
        fault("nine pairs", EIGHT + " 1 1;", 0, 5);
        fault("nine pairs without an end", EIGHT + " 1 1", 0, 5);
        fault("many pairs", "code" + " 1".repeat(58), 0, 5);
        fault("many pairs, one number more", "code 1" + " 12".repeat(38), 0, 2);
    }

    private static void ends() {
        for (String text : new String[] {"sector red 1 1", "sector red 1 1 ;", "sector red 1 1x;", "code 1 1",
            "code 1 1x", "code 1 00001;", "changer bulbs", "changer bulbs ;", "changer bulbs1;", "lamp bulb 1 1",
            "lamp bulb 1 1 1;", "clear 5", "clear 5 5;", "clear 00501;", "change 5:", "change 00000;"}) {
            fault("ends", text, 0, 6);
        }
    }

    private static void order() {
        fault("2 before 3", "sector red 64;", 0, 2);
        fault("2 before 3 in a code", "code 99 1 1;", 0, 2);
        fault("3 before 4", "lamp burner 0 1;", 0, 3);
        fault("3 before 5", EIGHT + " 0 1;", 0, 3);
        fault("3 before 6", "clear 0", 0, 3);
        fault("4 before 6", "lamp burner 1 1", 0, 4);
        fault("1 before 2", "lamp bulbs", 0, 1);
        fault("5 before 6", "lamp bulb 1 1;".repeat(6) + "lamp bulb 1 1", 84, 5);
    }

    private static void laterItems() {
        fault("second item", "clear 5;x", 8, 1);
        fault("two ends", "clear 5;;", 8, 1);
        fault("blank between", "clear 5; clear 5;", 8, 1);
        fault("first of two", "clear 5;clear;code 0 0;", 8, 2);
        fault("third item", "clear 5;change 5;code 1", 17, 2);
        good("changer burners;lamp burner 1 1;changer bulbs;lamp bulb 1 1;", 4);
        good("clear 1;".repeat(15), 15);
    }

    private static void load() {
        HarborLight x = Check.withText("sector red 62 1;sector green 1 2;code 1 2 3 4;clear 9;change 8;");
        C.due("32: items", x.load(), 5);
        C.due("32: red", x.color(62), 2);
        C.due("32: red over 63", x.color(0), 2);
        C.due("32: green", x.color(1), 3);
        C.due("32: green too", x.color(2), 3);
        C.due("32: white", x.color(3), 1);
        C.due("32: parts", x.code(0), 2);
        C.due("32: period", x.code(1), 10);
        C.due("32: light", x.code(2), 4);
        C.due("32: dark at first", x.next(0), 1);
        C.due("32: clear", x.count(7), 9);
        C.due("32: change", x.count(6), 8);
        C.due("32: no ticks", x.account(0), 0);
    }

    private static void loadColors() {
        HarborLight x = Check.withText("sector dark 0 3;sector red 1 3;sector green 2 3;sector white 3 3;");
        x.paint(2, 63, 63);
        C.due("32: items of colors", x.load(), 4);
        int[] due = {0, 2, 3, 1, 1};
        for (int k = 0; k < due.length; k++) {
            C.due("32: color " + k, x.color(k), due[k]);
        }
        C.due("32: color 63", x.color(63), 2);
    }

    private static void oldSigns() {
        HarborLight x = Check.withText("clear 55;clear 7;");
        x.clearText();
        Check.type(x, "clear 55");
        C.due("31: the end stood in the text before", x.fault(1), 6);
        C.due("32: not carried out", x.load(), -2);
        x.type(';');
        C.due("32: one item", x.load(), 1);
        C.due("32: clear", x.count(7), 55);
    }

    private static void loadLamps() {
        HarborLight x = new HarborLight();
        x.addLamp(0, 10, 10);
        x.addLamp(0, 20, 20);
        x.addLamp(0, 30, 30);
        x.takeLamp(1);
        Check.type(x, "lamp bulb 40 50;lamp bulb 60 70;");
        x.load();
        C.due("32: lowest empty place", x.lamp(1, 1), 40);
        C.due("32: its life", x.lamp(1, 2), 50);
        C.due("32: next empty place", x.lamp(3, 1), 60);
        C.due("32: again", x.load(), 2);
        C.due("32: six lamps", x.count(1), 6);
        C.due("32: full", x.load(), -2);
        C.due("31: full", x.fault(1), 5);
        x.clearText();
        Check.type(x, "changer burners;lamp burner 7 8;");
        C.due("32: another changer", x.load(), 2);
        C.due("32: one lamp", x.count(1), 1);
        C.due("32: burner", x.lamp(0, 0), 1);
        C.due("32: kind", x.count(5), 1);
    }

    private static void loadIsOneChange() {
        HarborLight x = Check.withText("clear 7;sector red 0 9;change 1;x");
        String before = Check.look(x);
        C.due("32: fault behind", x.load(), -2);
        C.isTrue("32: an error changes nothing", before.equals(Check.look(x)));
        x.clearText();
        Check.type(x, "clear 7;sector red 0 9;change 1;");
        C.due("31: no fault", x.fault(0), -4);
        C.isTrue("31: nothing changes", before.equals(Check.look(x)));
        x.load();
        C.due("32: one change", x.count(9), 1);
        x.undo();
        C.isTrue("28: undone at once", before.equals(Check.look(x)));
        C.due("32: text stays", x.clearText(), 32);
    }
}
