import java.util.Objects;

/** Counts and prints what is not as it is due; the tests' lambdas stand here, never in the class. */
final class Check {
    static final Class<?> SLOT = IndexOutOfBoundsException.class;
    static final Class<?> WORD = IllegalArgumentException.class;

    private int wrong;
    private int made;

    void due(String what, Object want, Object got) {
        made++;
        if (!Objects.equals(want, got)) {
            wrong++;
            if (wrong <= 50) {
                System.out.println(what + ": answered " + got + ", due is " + want);
            }
        }
    }

    void so(String what, boolean got) {
        due(what, true, got);
    }

    /** The very exception: what the machine throws is a class below it. */
    void fails(String what, Class<?> want, Runnable call) {
        Class<?> got = null;
        try {
            call.run();
        } catch (RuntimeException e) {
            got = e.getClass();
        }
        due(what, want, got);
    }

    void end(String tests) {
        System.out.println(tests + ": " + made + " checks, " + wrong + " wrong");
        if (wrong != 0 || made == 0) {
            System.exit(1);
        }
    }

    /** Puts the term with this text into a slot, place by place; the slot 5 is overwritten. */
    static void set(Branchmatch x, int slot, String text) {
        x.name(slot, 0);
        int place = 0;
        for (char sign : text.toCharArray()) {
            int name = "abcdefgh".indexOf(sign);
            int head = "KLMNPQST".indexOf(sign);
            if (name >= 0 || head >= 0) {
                x.name(5, Math.max(name, 0));
                if (head >= 0) {
                    x.head(5, head, 5, 5, 5);
                }
                x.graft(slot, place, 5);
                place++;
            }
        }
        if (!x.text(slot).equals(text)) {
            throw new IllegalStateException("not set: " + text + " but " + x.text(slot));
        }
    }

    /** An object with these terms in the slots from 0 on. */
    static Branchmatch with(String... texts) {
        Branchmatch x = new Branchmatch();
        for (int k = 0; k < texts.length; k++) {
            set(x, k, texts[k]);
        }
        return x;
    }

    /** Lets an answer tell terms: "b=K" and the like; the slots 4 and 5 are overwritten. */
    static void tell(Branchmatch x, int answer, String... what) {
        for (String one : what) {
            set(x, 4, one.substring(2));
            x.tell(answer, one.charAt(0) - 'a', 4);
        }
    }

    /** What an answer tells of the names that it moves. */
    static String all(Branchmatch x, int answer) {
        StringBuilder all = new StringBuilder();
        for (int n = 0; n < 8; n++) {
            if ((x.moved(answer) >> n & 1) == 1) {
                all.append((char) ('a' + n)).append('=').append(x.told(answer, n)).append(' ');
            }
        }
        return all.toString().trim();
    }

    /** All that an object tells of itself. */
    static String state(Branchmatch x) {
        StringBuilder all = new StringBuilder();
        for (int k = 0; k < 6; k++) {
            all.append(x.text(k)).append(' ');
        }
        for (int k = 0; k < 3; k++) {
            all.append('[').append(all(x, k)).append(']');
        }
        for (int k = 0; k < 3; k++) {
            all.append(' ').append(x.house(k));
        }
        return all.toString();
    }
}
