import java.util.Arrays;

/** Long runs of drawn calls, wrong ones among them, each held against the model; the draw is always the same. */
public final class ModelTests {
    private static long seed = 8024;

    private static int draw(int bound) {
        seed = seed * 6364136223846793005L + 1442695040888963407L;
        return (int) ((seed >>> 33) % bound);
    }

    private static int slot() {
        return draw(300) == 0 ? wrong() : draw(6);
    }

    private static int answer() {
        return draw(300) == 0 ? wrong() : draw(3);
    }

    private static int name() {
        return draw(200) == 0 ? wrong() : draw(2) == 0 ? draw(3) : draw(8);
    }

    private static int place() {
        return draw(30) == 0 ? wrong() : draw(draw(2) == 0 ? 4 : 16);
    }

    private static int how(int most) {
        return draw(100) == 0 ? (draw(2) == 0 ? most + 1 : wrong()) : draw(most + 1);
    }

    private static int wrong() {
        int[] all = {-1, 3, 6, 8, 16, 99, Integer.MIN_VALUE, Integer.MAX_VALUE};
        return all[draw(all.length)];
    }

    static int[] arguments(String call) {
        switch (call) {
            case "name":
            case "count":
                return new int[] {slot(), name()};
            case "head":
                return new int[] {slot(), draw(200) == 0 ? wrong() : draw(8), slot(), slot(), slot()};
            case "copy":
            case "swap":
            case "find":
            case "differ":
            case "steps":
            case "why":
                return new int[] {slot(), slot()};
            case "part":
            case "graft":
                return new int[] {slot(), place(), slot()};
            case "put":
                return new int[] {slot(), name(), slot()};
            case "shift":
                return new int[] {slot(), how(7)};
            case "use":
            case "makes":
                return new int[] {answer(), slot(), slot()};
            case "common":
                return new int[] {slot(), slot(), slot()};
            case "tell":
                return new int[] {answer(), name(), slot()};
            case "take":
            case "unlike":
                return new int[] {answer(), answer()};
            case "behind":
                return new int[] {answer(), answer(), answer()};
            case "alike":
                return new int[] {slot(), slot(), answer(), how(1)};
            case "match":
                return new int[] {slot(), slot(), answer()};
            case "letter":
            case "sizeAt":
                return new int[] {slot(), place()};
            case "is":
                return new int[] {slot(), slot(), how(2)};
            case "can":
                return new int[] {slot(), slot(), how(1)};
            case "told":
                return new int[] {answer(), name()};
            case "forget":
            case "moved":
                return new int[] {answer()};
            case "isSo":
                return new int[] {answer(), how(1)};
            case "weight":
                return new int[] {answer(), draw(2)};
            case "house":
                return new int[] {how(4)};
            case "knock":
            case "isSound":
            case "digest":
                return new int[0];
            default:
                return new int[] {slot()};
        }
    }

    private static Object answered(Branchmatch x, String call, int[] v) {
        try {
            return Calls.call(x, call, v);
        } catch (RuntimeException e) {
            return e.getClass();
        }
    }

    private static Object due(Model model, String call, int[] v) {
        try {
            Object answer = model.act(call, v);
            return answer instanceof Integer ? (Object) ((Integer) answer).longValue() : answer;
        } catch (IndexOutOfBoundsException | IllegalArgumentException e) {
            return e.getClass();
        }
    }

    /** Runs that build on heads grow large terms; others keep to many names. */
    private static String drawn(int kind) {
        int luck = draw(100);
        if (luck < (kind == 0 ? 45 : 25)) {
            return "head";
        }
        if (luck < 30) {
            return kind == 1 ? "alike" : kind == 2 ? "tell" : kind == 3 ? "common" : "name";
        }
        return luck < 75 ? Calls.ACTS[draw(Calls.ACTS.length)] : Calls.ASKS[draw(Calls.ASKS.length)];
    }

    public static void main(String[] args) {
        Check check = new Check();
        int runs = args.length > 0 ? Integer.parseInt(args[0]) : 300;
        seed = args.length > 1 ? Long.parseLong(args[1]) : seed;
        for (int run = 0; run < runs; run++) {
            Branchmatch x = new Branchmatch();
            Model model = new Model();
            for (int k = 0; k < 511; k++) {
                String call = drawn(run % 5);
                int[] v = arguments(call);
                check.due("run " + run + " call " + k + " " + call + Arrays.toString(v),
                        due(model, call, v), answered(x, call, v));
            }
            check.due("run " + run + " digest at its end", model.act("digest", new int[0]), x.digest());
        }
        check.end("ModelTests");
    }
}
