/** Counts the answers that are not as due, and ends the test accordingly. */
final class Check {
    private final String test;
    private int checks;
    private int wrong;

    Check(String test) {
        this.test = test;
    }

    void due(String call, long got, long want) {
        checks++;
        if (got != want) {
            wrong++;
            System.out.println(test + ": " + call + " answered " + got + ", due is " + want);
        }
    }

    void isTrue(String claim, boolean holds) {
        due(claim, holds ? 1 : 0, 1);
    }

    /** Types a text into a light. */
    static HarborLight type(HarborLight light, String text) {
        for (int i = 0; i < text.length(); i++) {
            light.type(text.charAt(i));
        }
        return light;
    }

    /** A new light with a text. */
    static HarborLight withText(String text) {
        return type(new HarborLight(), text);
    }

    /** What can be asked of a light but for its text and history, as one string. */
    static String look(HarborLight x) {
        StringBuilder all = new StringBuilder();
        for (int k = 0; k < 64; k++) {
            all.append(x.color(k));
        }
        for (int what = 0; what < 5; what++) {
            all.append(" code ").append(x.code(what));
        }
        all.append(' ').append(x.shareBits()).append(' ').append(x.next(0)).append(' ').append(x.next(1));
        for (int place = 0; place < 6; place++) {
            for (int what = 0; what < 6; what++) {
                all.append(" lamp ").append(x.lamp(place, what));
            }
        }
        for (int what = 0; what < 4; what++) {
            all.append(" seen ").append(x.seen(what)).append(" range ").append(x.rangeBits(what));
        }
        for (int what = 0; what < 8; what++) {
            all.append(" account ").append(x.account(what));
        }
        for (int what = 0; what < 9; what++) {
            all.append(" count ").append(x.count(what));
        }
        // three looks at one light stay below the 512 calls that it is made for
        for (int index : new int[] {0, 1, 39}) {
            for (int what = 0; what < 4; what++) {
                all.append(" entry ").append(x.entry(index, what));
            }
        }
        return all.append(" idle ").append(x.untilIdle()).toString();
    }

    void end() {
        System.out.println(test + ": " + checks + " checks, " + wrong + " wrong");
        if (wrong != 0) {
            System.exit(1);
        }
    }
}
