import java.util.ArrayList;
import java.util.Arrays;
import java.util.List;

/**
 * A run of calls on a new object, a line each:
 *   "head 0 4 1 2 0 = 3"     the call, its arguments, what is due
 *   "size 6 ! slot"          it throws IndexOutOfBoundsException ("word": IllegalArgumentException)
 *   "size no6 ! slot"        so with -1, 6, 7, the greatest and the least int
 *   "set 0 P(a,M(b))"        puts that term into a slot (slot 5 is overwritten)
 *   "learn 1 b=K"            lets an answer tell that (slots 4 and 5 are overwritten)
 * With each call is looked at what else the document says of all: a call that throws changes and
 * counts nothing, nor does one that asks; an act is counted once, as done or as REFUSED; with
 * REFUSED and NONE all else stays. A run must keep to the 512 calls that the document promises,
 * with all that is asked so.
 */
final class Script {
    private final Check check;
    private final String name;
    private final Branchmatch x = new Branchmatch();
    private int line;
    private int calls;
    private long sum;

    private Script(Check check, String name) {
        this.check = check;
        this.name = name;
        this.sum = digest();
    }

    static void run(Check check, String name, String... lines) {
        Script script = new Script(check, name);
        for (String one : lines) {
            script.line++;
            script.take(one);
        }
        if (script.calls > 512) {
            throw new IllegalStateException(name + " takes too many calls: " + script.calls);
        }
    }

    private void take(String text) {
        String[] word = text.split(" ");
        if (word[0].equals("set")) {
            calls += Check.set(x, Integer.parseInt(word[1]), word[2]);
            sum = digest();
        } else if (word[0].equals("learn")) {
            calls += Check.tell(x, Integer.parseInt(word[1]), word[2]);
            sum = digest();
        } else {
            int mark = word.length - 2;
            boolean isThrown = word[mark].equals("!");
            if (!isThrown && !word[mark].equals("=")) {
                throw new IllegalStateException("no = in: " + text);
            }
            Object due = !isThrown ? value(word[mark + 1]) : word[mark + 1].equals("slot") ? Check.SLOT : Check.WORD;
            for (int[] v : arguments(word, mark)) {
                call(word[0], v, due, isThrown);
            }
        }
    }

    private static Object value(String text) {
        if (text.equals("true") || text.equals("false")) {
            return text.equals("true");
        }
        return text.matches("-?\\d+") ? (Object) Long.parseLong(text) : text;
    }

    private static List<int[]> arguments(String[] word, int mark) {
        List<int[]> all = new ArrayList<>();
        all.add(new int[mark - 1]);
        for (int k = 1; k < mark; k++) {
            if (!word[k].startsWith("no")) {
                for (int[] v : all) {
                    v[k - 1] = Integer.parseInt(word[k]);
                }
                continue;
            }
            int first = Integer.parseInt(word[k].substring(2));
            List<int[]> more = new ArrayList<>();
            for (int[] v : all) {
                for (int wrong : new int[] {-1, first, first + 1, Integer.MAX_VALUE, Integer.MIN_VALUE}) {
                    int[] copy = v.clone();
                    copy[k - 1] = wrong;
                    more.add(copy);
                }
            }
            all = more;
        }
        return all;
    }

    private void call(String call, int[] v, Object due, boolean isThrown) {
        String what = name + " line " + line + ": " + call + Arrays.toString(v);
        boolean isAct = !isThrown && Arrays.asList(Calls.ACTS).contains(call);
        boolean isRefused = isAct && due.equals(-9L);
        boolean isIdle = isRefused || isAct && due.equals(-1L);
        String before = isIdle ? held() : "";
        int done = isAct ? house(0) : 0;
        int refused = isAct ? house(1) : 0;
        calls++;
        Object got = Calls.answer(x, call, v);
        check.due(what, due, got);
        if (isAct) {
            check.due(what + ", acts done", done + (isRefused ? 0 : 1), house(0));
            check.due(what + ", REFUSED", refused + (isRefused ? 1 : 0), house(1));
            check.due(what + ", all else", before, isIdle ? held() : "");
            sum = digest();
        } else if (call.equals("knock")) {
            sum = digest();
        } else {
            check.due(what + ", all the same", sum, digest());
        }
    }

    private long digest() {
        calls++;
        return x.digest();
    }

    private int house(int what) {
        calls++;
        return x.house(what);
    }

    private String held() {
        StringBuilder all = new StringBuilder();
        for (int k = 0; k < 6; k++) {
            all.append(x.text(k)).append(' ');
        }
        for (int k = 0; k < 3; k++) {
            all.append('[').append(Check.all(x, k)).append(']');
        }
        calls += 9 + house(4);
        return all.append(house(2)).append(' ').append(house(3)).toString();
    }
}
