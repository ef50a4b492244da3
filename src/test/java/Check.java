import java.util.Objects;

/** Counts and prints what is not as it is due; and sets up objects. */
final class Check {
    /** The very exception is due: what the machine throws is of a class below it. */
    static final Class<?> SLOT = IndexOutOfBoundsException.class;
    static final Class<?> WORD = IllegalArgumentException.class;

    private int wrong;
    private int made;

    void due(String what, Object want, Object got) {
        made++;
        if (!Objects.equals(want, got)) {
            wrong++;
            if (wrong <= 50) {
                System.out.println(what + ": answered " + got + ", due is " + want);
            }
        }
    }

    void so(String what, boolean got) {
        due(what, true, got);
    }

    void end(String tests) {
        System.out.println(tests + ": " + made + " checks, " + wrong + " wrong");
        if (wrong != 0 || made == 0) {
            System.exit(1);
        }
    }

    /** Puts the term with this text into a slot, place by place; the slot 5 is overwritten. Tells how many calls that took. */
    static int set(Branchmatch x, int slot, String text) {
        x.name(slot, 0);
        int calls = 2;
        int place = 0;
        for (char sign : text.toCharArray()) {
            int name = "abcdefgh".indexOf(sign);
            int head = "KLMNPQST".indexOf(sign);
            if (name >= 0 || head >= 0) {
                x.name(5, Math.max(name, 0));
                calls += 2;
                if (head >= 0) {
                    x.head(5, head, 5, 5, 5);
                    calls++;
                }
                x.graft(slot, place, 5);
                place++;
            }
        }
        if (!x.text(slot).equals(text)) {
            throw new IllegalStateException("not set: " + text + " but " + x.text(slot));
        }
        return calls;
    }

    /** Lets an answer tell a term: "b=K" and the like; the slots 4 and 5 are overwritten. */
    static int tell(Branchmatch x, int answer, String what) {
        int calls = set(x, 4, what.substring(2));
        x.tell(answer, what.charAt(0) - 'a', 4);
        return calls + 1;
    }

    /** What an answer tells of the names that it moves. */
    static String all(Branchmatch x, int answer) {
        StringBuilder all = new StringBuilder();
        int moved = x.moved(answer);
        for (int n = 0; n < 8; n++) {
            if ((moved >> n & 1) == 1) {
                all.append((char) ('a' + n)).append('=').append(x.told(answer, n)).append(' ');
            }
        }
        return all.toString().trim();
    }
}
