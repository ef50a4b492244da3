import java.util.ArrayList;
import java.util.LinkedHashSet;
import java.util.List;
import java.util.Set;

/** What always holds: of all small terms, pair by pair, and of drawn larger ones and answers. */
public final class LawTests {
    private static final Check CHECK = new Check();
    /** A few terms and answers to hold the laws against that speak of any other one. */
    private static final String[] SMALL = {"a", "b", "c", "K", "M(a)", "M(b)", "M(K)", "P(a,b)", "P(b,b)", "P(K,a)"};
    private static long seed = 42;

    private static int draw(int bound) {
        seed = seed * 6364136223846793005L + 1442695040888963407L;
        return (int) ((seed >>> 33) % bound);
    }

    private static void so(String what, boolean got) {
        CHECK.so(what, got);
    }

    /** All terms of three names, K, M and P with a depth up to this, or some of them where they are many. */
    private static List<String> terms(int depth) {
        Set<String> all = new LinkedHashSet<>(List.of("a", "b", "c", "K"));
        for (int k = 1; k < depth; k++) {
            List<String> parts = new ArrayList<>(all);
            for (String one : parts) {
                all.add("M(" + one + ")");
                for (String other : parts) {
                    all.add("P(" + one + "," + other + ")");
                }
            }
        }
        return new ArrayList<>(all);
    }

    /** A drawn term with at most this size. */
    private static String term(int most, int names) {
        int kind = draw(10);
        if (most < 2 || kind < 2) {
            return draw(6) == 0 ? "K" : String.valueOf((char) ('a' + draw(names)));
        }
        if (most < 3 || kind < 3) {
            return "M(" + term(most - 1, names) + ")";
        }
        if (most < 4 || kind < 8) {
            int left = 1 + draw(most - 2);
            return "P(" + term(left, names) + "," + term(most - 1 - left, names) + ")";
        }
        int third = (most - 1) / 3;
        return "S(" + term(third, names) + "," + term(third, names) + "," + term(third, names) + ")";
    }

    /** Of the terms in the slots 0 and 1; the answer 2 is any other one. */
    private static void lawsOfTwo(Branchmatch x, String what) {
        boolean can = x.can(0, 1, 0);
        CHECK.due(what + " by classes as by steps", can, x.can(0, 1, 1));
        CHECK.due(what + " the other one first", can, x.can(1, 0, 0));
        CHECK.due(what + " why", can, x.why(0, 1) == 0);
        so(what + " can not where an answer does it", can || !x.makes(2, 0, 1));
        so(what + " is sound", x.isSound());
        int moved = x.alike(0, 1, 0, 0);
        CHECK.due(what + " none", !can, moved == -1);
        CHECK.due(what + " classes tell as many", moved, x.alike(0, 1, 1, 1));
        if (moved >= 0) {
            CHECK.due(what + " same answer", -1, x.unlike(0, 1));
            x.alike(1, 0, 1, 0);
            CHECK.due(what + " same answer, the other one first", -1, x.unlike(0, 1));
            x.alike(1, 0, 1, 1);
            CHECK.due(what + " same answer, by classes", -1, x.unlike(0, 1));
            so(what + " made alike", x.makes(0, 0, 1));
            so(what + " twice is once", x.isSo(0, 0));
            if (x.makes(2, 0, 1) && x.behind(0, 2, 1) >= 0) {
                CHECK.due(what + " each other answer is it with that one behind", -1, x.unlike(1, 2));
            }
        }
        lawsOfMatch(x, what);
        lawsOfCommon(x, what);
    }

    private static void lawsOfMatch(Branchmatch x, String what) {
        boolean comes = x.is(1, 0, 2);
        CHECK.due(what + " matches if it comes from it", comes, x.match(0, 1, 0) >= 0);
        if (comes) {
            x.use(0, 0, 2);
            so(what + " matched", x.is(2, 1, 0));
            CHECK.due(what + " moves no other name", 0, x.moved(0) & ~x.names(0));
        }
        boolean back = x.is(0, 1, 2);
        CHECK.due(what + " same up to names", comes && back, x.is(0, 1, 1));
        x.copy(0, 2);
        x.copy(1, 3);
        CHECK.due(what + " names of the plain one", Integer.bitCount(x.names(0)), x.plain(2));
        x.plain(3);
        CHECK.due(what + " same when plain", x.is(0, 1, 1), x.is(2, 3, 0));
        so(what + " plain up to names", x.is(0, 2, 1));
        so(what + " shared", x.shared(0) <= x.size(0));
    }

    private static void lawsOfCommon(Branchmatch x, String what) {
        if (x.common(0, 1, 2) < 0) {
            CHECK.due(what + " as many names the other way", -9, x.common(1, 0, 3));
            return;
        }
        x.common(1, 0, 3);
        so(what + " common up to names", x.is(2, 3, 1));
        so(what + " one comes from common", x.is(0, 2, 2));
        so(what + " other comes from common", x.is(1, 2, 2));
        if (x.is(1, 0, 2)) {
            so(what + " common of one that comes from it", x.is(2, 0, 1));
        }
        for (String small : SMALL) {
            Check.set(x, 4, small);
            if (x.is(0, 4, 2) && x.is(1, 4, 2)) {
                so(what + " what else both come from: " + small, x.is(2, 4, 2));
            }
        }
    }

    private static void smallTerms() {
        List<String> all = terms(2);
        List<String> more = terms(3);
        for (int i = 0; i < all.size(); i++) {
            for (int j = 0; j < more.size(); j += 1 + draw(4)) {
                Branchmatch x = new Branchmatch();
                for (int n = 0; n < 3; n++) {
                    Check.tell(x, 2, (char) ('a' + n) + "=" + SMALL[draw(SMALL.length)]);
                }
                Check.set(x, 0, all.get(i));
                Check.set(x, 1, more.get(j));
                lawsOfTwo(x, all.get(i) + " and " + more.get(j));
            }
        }
    }

    private static void largeTerms() {
        for (int k = 0; k < 5000; k++) {
            Branchmatch x = new Branchmatch();
            int names = 2 + draw(7);
            String one = term(16, names);
            String other = term(16, names);
            Check.set(x, 0, one);
            Check.set(x, 1, other);
            if (draw(3) == 0) {
                x.alike(0, 1, 2, draw(2));
            }
            lawsOfTwo(x, one + " and " + other);
        }
    }

    /** Answers behind each other are grouped either way, and used so they are used one by one. */
    private static void answers() {
        for (int k = 0; k < 2000; k++) {
            Branchmatch x = new Branchmatch();
            for (int n = 0; n < 8; n++) {
                for (int a = 0; a < 3; a++) {
                    if (draw(2) == 0) {
                        Check.tell(x, a, (char) ('a' + n) + "=" + term(3, 8));
                    }
                }
            }
            String one = term(6, 8);
            Check.set(x, 0, one);
            boolean fits = x.use(0, 0, 1) >= 0 && x.use(1, 1, 1) >= 0 && x.use(2, 1, 1) >= 0;
            String left = grouped(copyOf(x), true);
            String right = grouped(copyOf(x), false);
            if (left != null && right != null) {
                CHECK.due("grouped either way", left, right);
            }
            if (fits && x.behind(0, 1, 0) >= 0 && x.behind(0, 2, 0) >= 0 && x.use(0, 0, 2) >= 0) {
                CHECK.due("used one by one on " + one, x.text(1), x.text(2));
            }
        }
    }

    private static Branchmatch copyOf(Branchmatch x) {
        Branchmatch y = new Branchmatch();
        for (int a = 0; a < 3; a++) {
            for (int n = 0; n < 8; n++) {
                Check.tell(y, a, (char) ('a' + n) + "=" + x.told(a, n));
            }
        }
        return y;
    }

    private static String grouped(Branchmatch x, boolean isLeft) {
        boolean fits = isLeft
                ? x.behind(0, 1, 0) >= 0 && x.behind(0, 2, 0) >= 0
                : x.behind(1, 2, 1) >= 0 && x.behind(0, 1, 0) >= 0;
        return fits ? Check.all(x, 0) : null;
    }

    public static void main(String[] args) {
        smallTerms();
        largeTerms();
        answers();
        CHECK.end("LawTests");
    }
}
