import java.util.Arrays;

/** Long runs of drawn calls, wrong ones among them, each held against the model; the draw is always the same. */
public final class ModelTests {
    private static Draw draw;

    private static Object due(Model model, String call, int[] v) {
        try {
            Object answer = model.act(call, v);
            return answer instanceof Integer ? (Object) ((Integer) answer).longValue() : answer;
        } catch (IndexOutOfBoundsException | IllegalArgumentException e) {
            return e.getClass();
        }
    }

    /** Runs that build on heads grow large terms; others keep to many names. */
    private static String drawn(int kind) {
        int luck = draw.below(100);
        if (luck < (kind == 0 ? 45 : 25)) {
            return "head";
        }
        if (luck < 30) {
            return kind == 1 ? "alike" : kind == 2 ? "tell" : kind == 3 ? "common" : "name";
        }
        return luck < 75 ? draw.of(Calls.ACTS) : draw.of(Calls.ASKS);
    }

    public static void main(String[] args) {
        Check check = new Check();
        int runs = args.length > 0 ? Integer.parseInt(args[0]) : 300;
        draw = new Draw(args.length > 1 ? Long.parseLong(args[1]) : 8024);
        for (int run = 0; run < runs; run++) {
            Branchmatch x = new Branchmatch();
            Model model = new Model();
            for (int k = 0; k < 511; k++) {
                String call = drawn(run % 5);
                int[] v = draw.arguments(call);
                check.due("run " + run + " call " + k + " " + call + Arrays.toString(v),
                        due(model, call, v), Calls.answer(x, call, v));
            }
            check.due("run " + run + " digest at its end", model.act("digest", new int[0]), x.digest());
        }
        check.end("ModelTests");
    }
}
