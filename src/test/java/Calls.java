/** The calls of the face by name and whole numbers. */
final class Calls {
    static final String[] ACTS = {
        "name", "head", "copy", "swap", "part", "graft", "put", "shift", "plain", "use", "common",
        "forget", "tell", "take", "behind", "alike", "match"};
    static final String[] ASKS = {
        "text", "size", "depth", "shared", "letter", "sizeAt", "count", "names", "find", "differ", "is", "can",
        "steps", "why", "told", "moved", "makes", "isSo", "unlike", "weight", "house", "knock", "isSound", "digest"};

    private Calls() { }

    /** What it answers, or the class of what it throws. */
    static Object answer(Branchmatch x, String call, int[] v) {
        try {
            return call(x, call, v);
        } catch (RuntimeException e) {
            return e.getClass();
        }
    }

    static Object call(Branchmatch x, String call, int[] v) {
        switch (call) {
            case "name": return (long) x.name(v[0], v[1]);
            case "head": return (long) x.head(v[0], v[1], v[2], v[3], v[4]);
            case "copy": return (long) x.copy(v[0], v[1]);
            case "swap": return (long) x.swap(v[0], v[1]);
            case "part": return (long) x.part(v[0], v[1], v[2]);
            case "graft": return (long) x.graft(v[0], v[1], v[2]);
            case "put": return (long) x.put(v[0], v[1], v[2]);
            case "shift": return (long) x.shift(v[0], v[1]);
            case "plain": return (long) x.plain(v[0]);
            case "use": return (long) x.use(v[0], v[1], v[2]);
            case "common": return (long) x.common(v[0], v[1], v[2]);
            case "forget": return (long) x.forget(v[0]);
            case "tell": return (long) x.tell(v[0], v[1], v[2]);
            case "take": return (long) x.take(v[0], v[1]);
            case "behind": return (long) x.behind(v[0], v[1], v[2]);
            case "alike": return (long) x.alike(v[0], v[1], v[2], v[3]);
            case "match": return (long) x.match(v[0], v[1], v[2]);
            case "text": return x.text(v[0]);
            case "size": return (long) x.size(v[0]);
            case "depth": return (long) x.depth(v[0]);
            case "shared": return (long) x.shared(v[0]);
            case "letter": return (long) x.letter(v[0], v[1]);
            case "sizeAt": return (long) x.sizeAt(v[0], v[1]);
            case "count": return (long) x.count(v[0], v[1]);
            case "names": return (long) x.names(v[0]);
            case "find": return (long) x.find(v[0], v[1]);
            case "differ": return (long) x.differ(v[0], v[1]);
            case "is": return x.is(v[0], v[1], v[2]);
            case "can": return x.can(v[0], v[1], v[2]);
            case "steps": return (long) x.steps(v[0], v[1]);
            case "why": return (long) x.why(v[0], v[1]);
            case "told": return x.told(v[0], v[1]);
            case "moved": return (long) x.moved(v[0]);
            case "makes": return x.makes(v[0], v[1], v[2]);
            case "isSo": return x.isSo(v[0], v[1]);
            case "unlike": return (long) x.unlike(v[0], v[1]);
            case "weight": return (long) x.weight(v[0], v[1] == 1);
            case "house": return (long) x.house(v[0]);
            case "knock": return (long) x.knock();
            case "isSound": return x.isSound();
            case "digest": return x.digest();
            default: throw new IllegalStateException("no such call: " + call);
        }
    }
}
