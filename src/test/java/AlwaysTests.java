import java.util.ArrayList;
import java.util.Arrays;
import java.util.HashSet;
import java.util.List;
import java.util.Map;
import java.util.Set;
import java.util.TreeMap;

/**
 * Each thing that WHAT ALWAYS HOLDS says, looked at after every call of drawn runs. To look at it takes acts,
 * too, so that each look is at a new object on which the run was done again: no object gets more than its 512 calls.
 */
public final class AlwaysTests {
    private static final Check CHECK = new Check();
    /** With this many calls of a run and those of the longest look an object is still at its promised ones. */
    private static final int LENGTH = 100;
    /** In the one kind of runs terms stay small, so that much comes from one another; in the other one they grow. */
    private static final String[][] DRAWN = {
        ("name name name name name name name head head head head head head head tell tell tell tell tell "
            + "alike alike alike alike use use use match match match part part part graft graft put put shift plain "
            + "copy copy swap common common behind behind take forget knock text digest find can").split(" "),
        ("name name head head head head head tell tell tell graft graft graft put put alike alike match use use "
            + "shift plain copy swap common behind behind take forget part part steps weight").split(" ")};
    private static final int[][] ORDERS = {{0, 1, 2}, {0, 2, 1}, {1, 0, 2}, {1, 2, 0}, {2, 0, 1}, {2, 1, 0}};
    /** How often each thing was looked at. */
    private static final Map<String, Integer> LOOKS = new TreeMap<>();
    private static Draw draw;
    private static final List<String> CALLS = new ArrayList<>();
    private static final List<int[]> ARGUMENTS = new ArrayList<>();
    private static String where;

    private static void holds(String law, boolean isSo) {
        LOOKS.merge(law, 1, Integer::sum);
        CHECK.so(isSo ? law : law + ", but not so " + where, isSo);
    }

    /** A new object with all calls of the run until now. */
    private static Branchmatch fresh() {
        Branchmatch x = new Branchmatch();
        for (int k = 0; k < CALLS.size(); k++) {
            Calls.answer(x, CALLS.get(k), ARGUMENTS.get(k));
        }
        return x;
    }

    /** The slot with this number of those that are not among these. */
    private static int besides(int number, int... taken) {
        int left = number;
        for (int slot = 0; slot < 6; slot++) {
            boolean isTaken = false;
            for (int one : taken) {
                isTaken = isTaken || one == slot;
            }
            if (!isTaken && left-- == 0) {
                return slot;
            }
        }
        throw new IllegalStateException("no slot is left");
    }

    // ---- of two terms

    private static void madeAlike(int i, int j) {
        Branchmatch x = fresh();
        boolean can = x.can(i, j, 0);
        holds("by STEPS just if by CLASSES", can == x.can(i, j, 1));
        holds("can, whichever is named first", can == x.can(j, i, 0) && can == x.can(j, i, 1));
        holds("why is 0 just if they can", can == (x.why(i, j) == 0) && can == (x.why(j, i) == 0));
        int moved = x.alike(i, j, 0, 0);
        holds("NONE just if they can not", can == (moved != -1));
        for (int t = 0; t < 3 && !can; t++) {
            holds("if they can not, no ANSWER does", !x.makes(t, i, j));
        }
        boolean isSame = moved == x.alike(i, j, 1, 1) && (moved < 0 || x.unlike(0, 1) == -1);
        boolean isSameByThis = moved == x.alike(j, i, 1, 0) && (moved < 0 || x.unlike(0, 1) == -1);
        boolean isSameByThat = moved == x.alike(j, i, 1, 1) && (moved < 0 || x.unlike(0, 1) == -1);
        holds("the same ANSWER by STEPS and by CLASSES", isSame);
        holds("the same ANSWER, whichever is named first", isSameByThis && isSameByThat);
        if (moved >= 0) {
            holds("that makes them alike", x.makes(0, i, j));
            holds("done twice it is done once", x.isSo(0, 0));
            holds("USED on both it tells the same", usedTells(x, 0, i, j));
        }
    }

    private static boolean usedTells(Branchmatch x, int answer, int i, int j) {
        int one = besides(0, i, j);
        int other = besides(1, i, j);
        boolean fits = x.use(answer, i, one) >= 0 && x.use(answer, j, other) >= 0;
        return !fits || x.is(one, other, 0);
    }

    private static void othersThatMakeAlike(int i, int j, int t) {
        Branchmatch x = fresh();
        int it = (t + 1) % 3;
        int both = (t + 2) % 3;
        boolean makes = x.makes(t, i, j);
        int moved = x.alike(i, j, it, draw.below(2));
        if (makes) {
            holds("each other ANSWER of the run is it with that behind", moved >= 0 && x.behind(it, t, both) >= 0
                    && x.unlike(both, t) == -1);
        } else if (moved >= 0 && x.behind(it, t, t) >= 0) {
            holds("it with another one behind makes them alike", x.makes(t, i, j));
            holds("each other ANSWER is it with that behind", x.behind(it, t, both) >= 0 && x.unlike(both, t) == -1);
        }
    }

    private static void matched(int i, int j) {
        Branchmatch x = fresh();
        int made = besides(draw.below(4), i, j);
        boolean comes = x.is(j, i, 2);
        int moved = x.match(i, j, 0);
        holds("MATCHES just if that comes from it", comes == (moved >= 0));
        if (!comes) {
            for (int t = 0; t < 3; t++) {
                holds("no ANSWER where none MATCHES", x.use(t, i, made) < 0 || !x.is(made, j, 0));
            }
            return;
        }
        holds("MOVES no NAME but such as stand in it", (x.moved(0) & ~x.names(i)) == 0);
        for (int t = 1; t < 3; t++) {
            if (x.use(t, i, made) >= 0 && x.is(made, j, 0)) {
                holds("by one ANSWER of the run alone", tellTheSame(x, 0, t, x.names(i)));
            }
        }
        holds("MATCHED it makes that", x.use(0, i, made) >= 0 && x.is(made, j, 0));
        holds("COMMON with what comes from it is it", x.common(i, j, made) >= 0 && x.is(made, i, 1));
        holds("COMMON of what comes from it with it is it", x.common(j, i, made) >= 0 && x.is(made, i, 1));
    }

    private static boolean tellTheSame(Branchmatch x, int one, int other, int names) {
        boolean isSame = true;
        for (int n = 0; n < 8; n++) {
            isSame = isSame && ((names >> n & 1) == 0 || x.told(one, n).equals(x.told(other, n)));
        }
        return isSame;
    }

    /** What an answer makes of a term comes from it. */
    private static void matchedOntoUsed(int t, int i) {
        Branchmatch x = fresh();
        int made = besides(draw.below(5), i);
        int common = besides(0, i, made);
        int it = (t + 1) % 3;
        if (x.use(t, i, made) >= 0) {
            holds("what is USED on comes from it", x.is(made, i, 2));
            holds("MATCHES onto that by one ANSWER alone", x.match(i, made, it) >= 0 && tellTheSame(x, t, it, x.names(i)));
            holds("COMMON with what is USED on is it", x.common(i, made, common) >= 0 && x.is(common, i, 1));
        }
    }

    private static void inCommon(int i, int j) {
        Branchmatch x = fresh();
        int common = besides(draw.below(4), i, j);
        int around = besides(0, i, j, common);
        int third = besides(1, i, j, common);
        int size = x.common(i, j, common);
        for (int k = 0; k < 6 && size >= 0; k++) {
            if (k != common && x.is(i, k, 2) && x.is(j, k, 2)) {
                holds("what else of the run they both come from", x.is(common, k, 2));
            }
        }
        holds("COMMON in whichever sequence", x.common(j, i, around) == size && (size < 0 || x.is(common, around, 1)));
        if (size < 0) {
            return;
        }
        holds("both come from what they have in COMMON", x.is(i, common, 2) && x.is(j, common, 2));
        for (int k = 0; k < 6; k++) {
            // A head of the one with names as parts, or what is in common with a name or a part of itself at a place.
            x.name(third, draw.below(3));
            if (k < 3) {
                x.head(around, Math.max(x.letter(i, 0) - 10, 0), third, third, third);
                x.name(third, draw.below(3));
                x.graft(around, 1 + draw.below(3), third);
            } else {
                x.copy(common, around);
                x.part(common, draw.below(8), third);
                x.graft(around, draw.below(Math.max(size, 1)), third);
            }
            if (x.is(i, around, 2) && x.is(j, around, 2)) {
                holds("what else they both come from", x.is(common, around, 2));
            }
        }
    }

    private static void upToNames(int i, int j) {
        Branchmatch x = fresh();
        int one = besides(0, i, j);
        int other = besides(1, i, j);
        boolean isSame = x.is(i, j, 1);
        holds("up to NAMES in whichever sequence", isSame == x.is(j, i, 1));
        holds("up to NAMES just if each comes from the other one", isSame == (x.is(i, j, 2) && x.is(j, i, 2)));
        x.copy(i, one);
        x.copy(j, other);
        x.plain(one);
        x.plain(other);
        holds("up to NAMES just if the same when PLAIN", isSame == x.is(one, other, 0));
        holds("what is PLAIN is so up to NAMES", x.is(i, one, 1));
        x.copy(i, other);
        x.shift(other, draw.below(8));
        holds("what is shifted is so up to NAMES", x.is(i, other, 1) && x.is(i, other, 2) && x.is(other, i, 2));
        x.plain(other);
        holds("what is shifted is the same when PLAIN", x.is(one, other, 0));
    }

    // ---- of answers

    private static void grouped(int[] order) {
        Branchmatch left = fresh();
        Branchmatch right = fresh();
        boolean fits = left.behind(order[0], order[1], order[0]) >= 0 && left.behind(order[0], order[2], order[0]) >= 0;
        fits = fits && right.behind(order[1], order[2], order[1]) >= 0 && right.behind(order[0], order[1], order[0]) >= 0;
        if (fits) {
            holds("grouped either way", Check.all(left, order[0]).equals(Check.all(right, order[0])));
        }
    }

    private static void usedOneByOne(int t, int next) {
        Branchmatch x = fresh();
        int i = draw.below(6);
        int one = besides(0, i);
        int other = besides(1, i);
        int both = besides(0, t, next);
        boolean fits = x.use(t, i, one) >= 0 && x.use(next, one, one) >= 0;
        if (x.behind(t, next, both) >= 0) {
            int size = x.use(both, i, other);
            holds("USED so they are USED one by one", fits ? size >= 0 && x.is(one, other, 0) : size < 0 || !fits);
        }
    }

    // ---- of each term

    private static void sizes(Branchmatch x) {
        for (int i = 0; i < 6; i++) {
            String text = x.text(i);
            Set<String> unlike = new HashSet<>();
            int letters = 0;
            for (int k = 0; k < text.length(); k++) {
                if (Character.isLetter(text.charAt(k))) {
                    letters++;
                    unlike.add(text.substring(k, endOf(text, k)));
                }
            }
            holds("SIZE counts each letter as often as it stands", x.size(i) == letters);
            holds("the SHARED SIZE counts each unlike TERM once", x.shared(i) == unlike.size());
            holds("the SHARED SIZE is never greater", x.shared(i) <= x.size(i));
        }
    }

    private static int endOf(String text, int start) {
        int open = 0;
        int k = start + 1;
        while (k < text.length() && (open > 0 || text.charAt(k) == '(')) {
            open += text.charAt(k) == '(' ? 1 : text.charAt(k) == ')' ? -1 : 0;
            k++;
        }
        return k;
    }

    // ---- what is asked

    private static String held(Branchmatch x) {
        StringBuilder all = new StringBuilder();
        for (int k = 0; k < 6; k++) {
            all.append(x.text(k)).append(' ');
        }
        for (int k = 0; k < 24; k++) {
            all.append(x.told(k / 8, k % 8)).append(' ');
        }
        for (int k = 0; k < 5; k++) {
            all.append(x.house(k)).append(' ');
        }
        return all.append(x.digest()).toString();
    }

    /** Asks of two terms, and of what else there is with the first one's number. */
    private static void ask(Branchmatch x, int i, int j) {
        for (String call : new String[] {"find", "differ", "steps", "why"}) {
            Calls.answer(x, call, new int[] {i, j});
        }
        for (int how = 0; how < 4; how++) {
            Calls.answer(x, "is", new int[] {i, j, how});
            Calls.answer(x, how < 2 ? "can" : "isSo", how < 2 ? new int[] {i, j, how} : new int[] {j % 3, how - 2});
        }
        for (String call : new String[] {"size", "depth", "shared", "names", "moved", "text", "house"}) {
            Calls.answer(x, call, new int[] {i});
        }
        for (String call : new String[] {"letter", "sizeAt", "count", "unlike", "told", "weight"}) {
            Calls.answer(x, call, new int[] {i, j - 1});
        }
        x.makes(i % 3, i, j);
        x.isSound();
    }

    private static void asked() {
        for (int from = 0; from < 6; from += 2) {
            Branchmatch x = fresh();
            String before = held(x);
            for (int k = 0; k < 12; k++) {
                ask(x, from + k / 6, k % 6);
            }
            holds("what is asked changes nothing", before.equals(held(x)));
        }
    }

    private static void lookAtAll() {
        for (int i = 0; i < 6; i++) {
            for (int j = 0; j < 6; j++) {
                matched(i, j);
                if (i <= j) {
                    madeAlike(i, j);
                    othersThatMakeAlike(i, j, draw.below(3));
                    inCommon(i, j);
                    upToNames(i, j);
                }
            }
            matchedOntoUsed(i % 3, i);
        }
        for (int[] order : ORDERS) {
            grouped(order);
            usedOneByOne(order[0], order[1]);
            usedOneByOne(order[0], order[0]);
        }
        sizes(fresh());
        asked();
        holds("sound", fresh().isSound());
    }

    public static void main(String[] args) {
        int runs = args.length > 0 ? Integer.parseInt(args[0]) : 14;
        draw = new Draw(args.length > 1 ? Long.parseLong(args[1]) : 1118);
        for (int run = 0; run < runs; run++) {
            CALLS.clear();
            ARGUMENTS.clear();
            for (int k = 0; k < LENGTH; k++) {
                String call = draw.of(DRAWN[run % 2]);
                CALLS.add(call);
                ARGUMENTS.add(draw.arguments(call));
                where = "in run " + run + " after call " + k + " " + call + Arrays.toString(ARGUMENTS.get(k));
                lookAtAll();
            }
        }
        CHECK.due("things looked at", 40, LOOKS.size());
        for (Map.Entry<String, Integer> look : LOOKS.entrySet()) {
            CHECK.so("looked at often enough: " + look, look.getValue() >= runs * LENGTH);
        }
        CHECK.end("AlwaysTests");
    }
}
