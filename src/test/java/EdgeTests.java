import java.util.ArrayList;
import java.util.Arrays;
import java.util.List;

/**
 * Each call with the least and the greatest of each argument, the first ones beyond and the ends of
 * int, in each combination: which exception it throws (by the kinds of its arguments alone), that
 * nothing changes and nothing is counted then, and otherwise what it answers and leaves (by the model).
 */
public final class EdgeTests {
    private static final Check CHECK = new Check();
    private static final int LEAST = Integer.MIN_VALUE;
    private static final int GREATEST = Integer.MAX_VALUE;

    /** S slot, A answer, N name, H head, B by, P place, 1 2 4 a how or what up to that, F false or true. */
    private static final String[] KINDS = {
        "name SN", "head SHSSS", "copy SS", "swap SS", "part SPS", "graft SPS", "put SNS", "shift SB", "plain S",
        "use ASS", "common SSS", "forget A", "tell ANS", "take AA", "behind AAA", "alike SSA1", "match SSA",
        "text S", "size S", "depth S", "shared S", "letter SP", "sizeAt SP", "count SN", "names S", "find SS",
        "differ SS", "is SS2", "can SS1", "steps SS", "why SS", "told AN", "moved A", "makes ASS", "isSo A1",
        "unlike AA", "weight AF", "house 4", "knock ", "isSound ", "digest "};

    /** Each begins with a new object. */
    private static final String[][] STATES = {
        {},
        // The slot 0 and the answers have a SIZE of 16, the slot 1 has 15: 16 and one above are near.
        {"head 0 6 0 1 2", "head 0 7 0 0 0", "head 0 6 0 3 4", "head 1 4 1 2 0", "head 1 5 1 1 0",
            "head 1 4 1 1 0", "name 2 7", "head 5 2 0 0 0", "head 5 2 5 0 0", "tell 0 0 0", "tell 0 7 1",
            "tell 2 7 5", "tell 2 0 2", "head 5 7 3 4 2", "name 0 9"},
        // Small ones, some of which can be made alike and matched, and answers of names.
        {"head 0 4 0 1 0", "head 5 4 2 0 0", "tell 0 0 1", "tell 0 7 5", "tell 2 7 3", "tell 1 2 5", "knock",
            "part 0 3 1", "head 3 0 0 0 0", "take 1 2"},
    };

    private static int most(char kind) {
        switch (kind) {
            case 'S': return 5;
            case 'A': return 2;
            case 'N': return 7;
            case 'H': return 7;
            case 'B': return 7;
            case 'F': return 1;
            default: return kind - '0';
        }
    }

    private static int[] edges(char kind, boolean isLong) {
        if (kind == 'F') {
            return new int[] {0, 1};
        }
        if (kind == 'P') {
            return new int[] {0, 1, 4, 14, 15, 16, -1, LEAST, GREATEST};
        }
        int most = most(kind);
        return isLong ? new int[] {0, most, -1, most + 1} : new int[] {0, 1, most, -1, most + 1, LEAST, GREATEST};
    }

    private static List<int[]> combinations(String kinds) {
        List<int[]> all = new ArrayList<>();
        all.add(new int[kinds.length()]);
        for (int k = 0; k < kinds.length(); k++) {
            List<int[]> more = new ArrayList<>();
            for (int[] v : all) {
                for (int edge : edges(kinds.charAt(k), kinds.length() > 3)) {
                    int[] copy = v.clone();
                    copy[k] = edge;
                    more.add(copy);
                }
            }
            all = more;
        }
        return all;
    }

    /** The exception that is due, or none. A slot or an answer that there is not goes ahead of all else. */
    private static Class<?> thrown(String kinds, int[] v) {
        boolean isWord = false;
        for (int k = 0; k < v.length; k++) {
            char kind = kinds.charAt(k);
            boolean isBeyond = kind != 'P' && (v[k] < 0 || v[k] > most(kind));
            if (isBeyond && (kind == 'S' || kind == 'A')) {
                return Check.SLOT;
            }
            isWord = isWord || isBeyond;
        }
        return isWord ? Check.WORD : null;
    }

    private static Object due(Model model, String call, int[] v) {
        Object answer = model.act(call, v);
        return answer instanceof Integer ? (Object) ((Integer) answer).longValue() : answer;
    }

    private static String held(Branchmatch x) {
        StringBuilder all = new StringBuilder();
        for (int k = 0; k < 6; k++) {
            all.append(x.text(k)).append(' ');
        }
        for (int k = 0; k < 24; k++) {
            all.append(x.told(k / 8, k % 8)).append(' ');
        }
        for (int k = 0; k < 5; k++) {
            all.append(x.house(k)).append(' ');
        }
        return all.toString();
    }

    private static String held(Model model) {
        StringBuilder all = new StringBuilder();
        for (int k = 0; k < 6; k++) {
            all.append(due(model, "text", new int[] {k})).append(' ');
        }
        for (int k = 0; k < 24; k++) {
            all.append(due(model, "told", new int[] {k / 8, k % 8})).append(' ');
        }
        for (int k = 0; k < 5; k++) {
            all.append(due(model, "house", new int[] {k})).append(' ');
        }
        return all.toString();
    }

    private static int[] numbers(String[] word) {
        int[] v = new int[word.length - 1];
        for (int k = 1; k < word.length; k++) {
            v[k - 1] = Integer.parseInt(word[k]);
        }
        return v;
    }

    private static void one(int state, String call, String kinds, int[] v) {
        Branchmatch x = new Branchmatch();
        Model model = new Model();
        for (String line : STATES[state]) {
            String[] word = line.split(" ");
            // A call that throws is among them; the model is spared that.
            if (!(Calls.answer(x, word[0], numbers(word)) instanceof Class)) {
                due(model, word[0], numbers(word));
            }
        }
        String what = "state " + state + ": " + call + Arrays.toString(v);
        Class<?> thrown = thrown(kinds, v);
        CHECK.due(what, thrown != null ? thrown : due(model, call, v), Calls.answer(x, call, v));
        CHECK.due(what + " leaves", held(model), held(x));
    }

    public static void main(String[] args) {
        CHECK.due("calls", Calls.ACTS.length + Calls.ASKS.length, KINDS.length);
        for (String line : KINDS) {
            String call = line.substring(0, line.indexOf(' '));
            String kinds = line.substring(line.indexOf(' ') + 1);
            for (int[] v : combinations(kinds)) {
                for (int state = 0; state < STATES.length; state++) {
                    one(state, call, kinds, v);
                }
            }
        }
        CHECK.end("EdgeTests");
    }
}
