/** Draws calls and their arguments, wrong ones among them; from the same seed always the same. */
final class Draw {
    private long seed;

    Draw(long seed) {
        this.seed = seed;
    }

    int below(int bound) {
        seed = seed * 6364136223846793005L + 1442695040888963407L;
        return (int) ((seed >>> 33) % bound);
    }

    String of(String[] all) {
        return all[below(all.length)];
    }

    private int slot() {
        return below(300) == 0 ? wrong() : below(6);
    }

    private int answer() {
        return below(300) == 0 ? wrong() : below(3);
    }

    private int name() {
        return below(200) == 0 ? wrong() : below(2) == 0 ? below(3) : below(8);
    }

    private int place() {
        return below(30) == 0 ? wrong() : below(below(2) == 0 ? 4 : 16);
    }

    private int how(int most) {
        return below(100) == 0 ? (below(2) == 0 ? most + 1 : wrong()) : below(most + 1);
    }

    private int wrong() {
        int[] all = {-1, 3, 6, 8, 16, 99, Integer.MIN_VALUE, Integer.MAX_VALUE};
        return all[below(all.length)];
    }

    int[] arguments(String call) {
        switch (call) {
            case "name":
            case "count":
                return new int[] {slot(), name()};
            case "head":
                return new int[] {slot(), below(200) == 0 ? wrong() : below(8), slot(), slot(), slot()};
            case "copy":
            case "swap":
            case "find":
            case "differ":
            case "steps":
            case "why":
                return new int[] {slot(), slot()};
            case "part":
            case "graft":
                return new int[] {slot(), place(), slot()};
            case "put":
                return new int[] {slot(), name(), slot()};
            case "shift":
                return new int[] {slot(), how(7)};
            case "use":
            case "makes":
                return new int[] {answer(), slot(), slot()};
            case "common":
                return new int[] {slot(), slot(), slot()};
            case "tell":
                return new int[] {answer(), name(), slot()};
            case "take":
            case "unlike":
                return new int[] {answer(), answer()};
            case "behind":
                return new int[] {answer(), answer(), answer()};
            case "alike":
                return new int[] {slot(), slot(), answer(), how(1)};
            case "match":
                return new int[] {slot(), slot(), answer()};
            case "letter":
            case "sizeAt":
                return new int[] {slot(), place()};
            case "is":
                return new int[] {slot(), slot(), how(2)};
            case "can":
                return new int[] {slot(), slot(), how(1)};
            case "told":
                return new int[] {answer(), name()};
            case "forget":
            case "moved":
                return new int[] {answer()};
            case "isSo":
                return new int[] {answer(), how(1)};
            case "weight":
                return new int[] {answer(), below(2)};
            case "house":
                return new int[] {how(4)};
            case "knock":
            case "isSound":
            case "digest":
                return new int[0];
            default:
                return new int[] {slot()};
        }
    }
}
