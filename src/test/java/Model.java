import java.util.ArrayDeque;
import java.util.ArrayList;
import java.util.Arrays;
import java.util.Deque;
import java.util.HashMap;
import java.util.HashSet;
import java.util.LinkedHashMap;
import java.util.List;
import java.util.Map;
import java.util.Set;
import java.util.TreeMap;

/** The document once more, by trees and recursion, to hold the class against. */
final class Model {
    static final int REFUSED = -9;
    static final int NONE = -1;
    private static final String SIGNS = "abcdefgh  KLMNPQST";
    private static final int[] PARTS = {0, 0, 1, 1, 2, 2, 3, 3};

    /** A tree shares its parts; only its text is as long as it is. */
    static final class Tree {
        final int letter;
        final List<Tree> parts;
        final long size;

        Tree(int letter, List<Tree> parts) {
            this.letter = letter;
            this.parts = parts;
            long sum = 1;
            for (Tree part : parts) {
                sum += part.size;
            }
            this.size = Math.min(sum, 1L << 40);
        }

        boolean isName() {
            return letter < 8;
        }

        String text() {
            StringBuilder all = new StringBuilder().append(SIGNS.charAt(letter));
            for (int k = 0; k < parts.size(); k++) {
                all.append(k == 0 ? "(" : ",").append(parts.get(k).text());
            }
            return all.append(parts.isEmpty() ? "" : ")").toString();
        }

        void places(List<Tree> into) {
            into.add(this);
            for (Tree part : parts) {
                part.places(into);
            }
        }

        List<Tree> places() {
            List<Tree> all = new ArrayList<>();
            places(all);
            return all;
        }

        int depth() {
            int most = 0;
            for (Tree part : parts) {
                most = Math.max(most, part.depth());
            }
            return most + 1;
        }

        Set<String> unlike() {
            Set<String> all = new HashSet<>();
            for (Tree place : places()) {
                all.add(place.text());
            }
            return all;
        }

        int names() {
            int all = 0;
            for (Tree place : places()) {
                all |= place.isName() ? 1 << place.letter : 0;
            }
            return all;
        }

        boolean same(Tree other) {
            return size == other.size && text().equals(other.text());
        }
    }

    static Tree name(int n) {
        return new Tree(n, List.of());
    }

    Tree[] slots = new Tree[6];
    Tree[][] answers = new Tree[3][8];
    long done;
    long refused;
    long knocks;

    Model() {
        for (int k = 0; k < 6; k++) {
            slots[k] = name(k);
        }
        for (Tree[] answer : answers) {
            for (int n = 0; n < 8; n++) {
                answer[n] = name(n);
            }
        }
    }

    // ---- substitution, matching, what is in common

    static Tree used(Tree[] answer, Tree tree) {
        if (tree.isName()) {
            return answer[tree.letter];
        }
        List<Tree> parts = new ArrayList<>();
        for (Tree part : tree.parts) {
            parts.add(used(answer, part));
        }
        return new Tree(tree.letter, parts);
    }

    static Tree grafted(Tree tree, int place, Tree scion) {
        if (place == 0) {
            return scion;
        }
        List<Tree> parts = new ArrayList<>();
        long from = 1;
        for (Tree part : tree.parts) {
            boolean isHere = place >= from && place < from + part.size;
            parts.add(isHere ? grafted(part, (int) (place - from), scion) : part);
            from += part.size;
        }
        return new Tree(tree.letter, parts);
    }

    static Tree plain(Tree tree) {
        Map<Integer, Integer> order = new LinkedHashMap<>();
        for (Tree place : tree.places()) {
            if (place.isName()) {
                order.putIfAbsent(place.letter, order.size());
            }
        }
        Tree[] answer = new Tree[8];
        order.forEach((n, k) -> answer[n] = name(k));
        return used(answer, tree);
    }

    static boolean matched(Tree one, Tree onto, Map<Integer, Tree> told) {
        if (one.isName()) {
            Tree before = told.putIfAbsent(one.letter, onto);
            return before == null || before.same(onto);
        }
        if (one.letter != onto.letter) {
            return false;
        }
        for (int k = 0; k < one.parts.size(); k++) {
            if (!matched(one.parts.get(k), onto.parts.get(k), told)) {
                return false;
            }
        }
        return true;
    }

    static Tree inCommon(Tree one, Tree other, Map<String, Integer> pairs) {
        if (one.letter == other.letter && !one.isName()) {
            List<Tree> parts = new ArrayList<>();
            for (int k = 0; k < one.parts.size(); k++) {
                parts.add(inCommon(one.parts.get(k), other.parts.get(k), pairs));
            }
            return new Tree(one.letter, parts);
        }
        String pair = one.text() + "|" + other.text();
        pairs.putIfAbsent(pair, pairs.size());
        // A number above 7 is no name, but such a tree is not looked at.
        return new Tree(pairs.get(pair), List.of());
    }

    // ---- made alike by steps

    static final class Stepped {
        final Map<Integer, Tree> standsFor = new TreeMap<>();
        int steps;
        int why;

        Stepped(Tree one, Tree other) {
            Deque<Tree[]> row = new ArrayDeque<>();
            row.addFirst(new Tree[] {one, other});
            while (!row.isEmpty() && why == 0) {
                Tree[] pair = row.removeFirst();
                steps++;
                Tree a = become(pair[0]);
                Tree b = become(pair[1]);
                if (a.isName() && b.isName()) {
                    if (a.letter != b.letter) {
                        standsFor.put(Math.max(a.letter, b.letter), name(Math.min(a.letter, b.letter)));
                    }
                } else if (a.isName() || b.isName()) {
                    Tree named = a.isName() ? a : b;
                    Tree headed = a.isName() ? b : a;
                    if (stands(named.letter, headed)) {
                        why = 2;
                    } else {
                        standsFor.put(named.letter, headed);
                    }
                } else if (a.letter != b.letter) {
                    why = 1;
                } else {
                    for (int k = a.parts.size() - 1; k >= 0; k--) {
                        row.addFirst(new Tree[] {a.parts.get(k), b.parts.get(k)});
                    }
                }
            }
        }

        private Tree become(Tree tree) {
            Tree at = tree;
            while (at.isName() && standsFor.containsKey(at.letter)) {
                at = standsFor.get(at.letter);
            }
            return at;
        }

        private boolean stands(int name, Tree in) {
            Tree at = become(in);
            if (at.isName()) {
                return at.letter == name;
            }
            for (Tree part : at.parts) {
                if (stands(name, part)) {
                    return true;
                }
            }
            return false;
        }

        Tree[] answer() {
            Map<Integer, Tree> known = new HashMap<>();
            Tree[] all = new Tree[8];
            for (int n = 0; n < 8; n++) {
                all[n] = whole(n, known);
            }
            return all;
        }

        private Tree whole(int n, Map<Integer, Tree> known) {
            if (!standsFor.containsKey(n)) {
                return name(n);
            }
            if (!known.containsKey(n)) {
                Tree for_ = standsFor.get(n);
                Tree[] needed = new Tree[8];
                for (int m = 0; m < 8; m++) {
                    needed[m] = (for_.names() >> m & 1) == 1 ? whole(m, known) : null;
                }
                known.put(n, used(needed, for_));
            }
            return known.get(n);
        }
    }

    // ---- made alike by classes

    static final class Classed {
        final List<List<Tree>> classes = new ArrayList<>();
        boolean can = true;

        Classed(Tree one, Tree other) {
            Set<String> seen = new HashSet<>();
            List<Tree> all = one.places();
            all.addAll(other.places());
            for (Tree tree : all) {
                if (seen.add(tree.text())) {
                    classes.add(new ArrayList<>(List.of(tree)));
                }
            }
            join(one, other);
            for (int k = 0; can && k < classes.size(); k++) {
                can = !isInItself(classes.get(k), new ArrayList<>());
            }
        }

        private List<Tree> of(Tree tree) {
            for (List<Tree> group : classes) {
                for (Tree member : group) {
                    if (member.same(tree)) {
                        return group;
                    }
                }
            }
            throw new IllegalStateException("a term without a class");
        }

        private static Tree headed(List<Tree> group) {
            for (Tree tree : group) {
                if (!tree.isName()) {
                    return tree;
                }
            }
            return null;
        }

        private void join(Tree a, Tree b) {
            List<Tree> left = of(a);
            List<Tree> right = of(b);
            if (!can || left == right) {
                return;
            }
            Tree one = headed(left);
            Tree other = headed(right);
            left.addAll(right);
            classes.removeIf(group -> group == right);
            if (one == null || other == null) {
                return;
            }
            if (one.letter != other.letter) {
                can = false;
                return;
            }
            for (int k = 0; k < one.parts.size(); k++) {
                join(one.parts.get(k), other.parts.get(k));
            }
        }

        private boolean isInItself(List<Tree> group, List<List<Tree>> above) {
            for (List<Tree> one : above) {
                if (one == group) {
                    return true;
                }
            }
            Tree tree = headed(group);
            if (tree == null) {
                return false;
            }
            above.add(group);
            boolean isSo = false;
            for (Tree part : tree.parts) {
                isSo = isSo || isInItself(of(part), above);
            }
            above.remove(above.size() - 1);
            return isSo;
        }

        Tree[] answer() {
            Tree[] all = new Tree[8];
            Map<List<Tree>, Tree> known = new java.util.IdentityHashMap<>();
            for (int n = 0; n < 8; n++) {
                all[n] = name(n);
                for (List<Tree> group : classes) {
                    for (Tree member : group) {
                        if (member.letter == n) {
                            all[n] = whole(group, known);
                        }
                    }
                }
            }
            return all;
        }

        private Tree whole(List<Tree> group, Map<List<Tree>, Tree> known) {
            Tree tree = headed(group);
            if (tree == null) {
                int least = 8;
                for (Tree member : group) {
                    least = Math.min(least, member.letter);
                }
                return name(least);
            }
            if (!known.containsKey(group)) {
                List<Tree> parts = new ArrayList<>();
                for (Tree part : tree.parts) {
                    parts.add(whole(of(part), known));
                }
                known.put(group, new Tree(tree.letter, parts));
            }
            return known.get(group);
        }
    }

    // ---- the face: a name and its arguments, what it answers or the exception's class

    private static void slot(int... all) {
        for (int k : all) {
            if (k < 0 || k > 5) {
                throw new IndexOutOfBoundsException();
            }
        }
    }

    private static void answer(int... all) {
        for (int k : all) {
            if (k < 0 || k > 2) {
                throw new IndexOutOfBoundsException();
            }
        }
    }

    private static void upTo(int most, int value) {
        if (value < 0 || value > most) {
            throw new IllegalArgumentException();
        }
    }

    private long refuse() {
        refused++;
        return REFUSED;
    }

    private long did(long value) {
        done++;
        return value;
    }

    private long put(int slot, Tree tree) {
        if (tree.size > 16) {
            return refuse();
        }
        slots[slot] = tree;
        return did(tree.size);
    }

    private static long moved(Tree[] answer) {
        long all = 0;
        for (int n = 0; n < 8; n++) {
            all |= answer[n].letter == n ? 0 : 1 << n;
        }
        return all;
    }

    private long putAnswer(int k, Tree[] told) {
        for (Tree tree : told) {
            if (tree.size > 16) {
                return refuse();
            }
        }
        answers[k] = told.clone();
        return did(Long.bitCount(moved(told)));
    }

    private static Tree[] behind(Tree[] first, Tree[] next) {
        Tree[] all = new Tree[8];
        for (int n = 0; n < 8; n++) {
            all[n] = used(next, first[n]);
        }
        return all;
    }

    private static boolean sameAll(Tree[] one, Tree[] other) {
        boolean same = true;
        for (int n = 0; n < 8; n++) {
            same = same && one[n].same(other[n]);
        }
        return same;
    }

    private static boolean comesFrom(Tree one, Tree other) {
        return matched(other, one, new HashMap<>());
    }

    Object act(String call, int[] v) {
        switch (call) {
            case "name": {
                slot(v[0]);
                upTo(7, v[1]);
                long before = slots[v[0]].size;
                slots[v[0]] = name(v[1]);
                return did(before);
            }
            case "head": {
                slot(v[0], v[2], v[3], v[4]);
                upTo(7, v[1]);
                List<Tree> parts = new ArrayList<>();
                for (int k = 0; k < PARTS[v[1]]; k++) {
                    parts.add(slots[v[2 + k]]);
                }
                return put(v[0], new Tree(10 + v[1], parts));
            }
            case "copy":
                slot(v[0], v[1]);
                return put(v[1], slots[v[0]]);
            case "swap": {
                slot(v[0], v[1]);
                Tree one = slots[v[0]];
                Tree other = slots[v[1]];
                slots[v[0]] = other;
                slots[v[1]] = one;
                return did(one.same(other) ? 0 : 1);
            }
            case "part":
                slot(v[0], v[2]);
                if (v[1] < 0 || v[1] >= slots[v[0]].size) {
                    return refuse();
                }
                return put(v[2], slots[v[0]].places().get(v[1]));
            case "graft":
                slot(v[0], v[2]);
                if (v[1] < 0 || v[1] >= slots[v[0]].size) {
                    return refuse();
                }
                return put(v[0], grafted(slots[v[0]], v[1], slots[v[2]]));
            case "put": {
                slot(v[0], v[2]);
                upTo(7, v[1]);
                Tree[] told = new Model().answers[0];
                told[v[1]] = slots[v[2]];
                long places = (Long) ask("count", new int[] {v[0], v[1]});
                return put(v[0], used(told, slots[v[0]])) == REFUSED ? REFUSED : places;
            }
            case "shift": {
                slot(v[0]);
                upTo(7, v[1]);
                Tree[] told = new Tree[8];
                for (int n = 0; n < 8; n++) {
                    told[n] = name((n + v[1]) % 8);
                }
                slots[v[0]] = used(told, slots[v[0]]);
                return did(Integer.bitCount(slots[v[0]].names()));
            }
            case "plain":
                slot(v[0]);
                slots[v[0]] = plain(slots[v[0]]);
                return did(Integer.bitCount(slots[v[0]].names()));
            case "use":
                answer(v[0]);
                slot(v[1], v[2]);
                return put(v[2], used(answers[v[0]], slots[v[1]]));
            case "common": {
                slot(v[0], v[1], v[2]);
                Map<String, Integer> pairs = new HashMap<>();
                Tree tree = inCommon(slots[v[0]], slots[v[1]], pairs);
                return pairs.size() > 8 ? refuse() : put(v[2], tree);
            }
            default:
                return actOnAnswer(call, v);
        }
    }

    private Object actOnAnswer(String call, int[] v) {
        switch (call) {
            case "forget": {
                answer(v[0]);
                long before = Long.bitCount(moved(answers[v[0]]));
                answers[v[0]] = new Model().answers[0];
                return did(before);
            }
            case "tell": {
                answer(v[0]);
                slot(v[2]);
                upTo(7, v[1]);
                boolean same = answers[v[0]][v[1]].same(slots[v[2]]);
                answers[v[0]][v[1]] = slots[v[2]];
                return did(same ? 0 : 1);
            }
            case "take":
                answer(v[0], v[1]);
                return putAnswer(v[1], answers[v[0]]);
            case "behind":
                answer(v[0], v[1], v[2]);
                return putAnswer(v[2], behind(answers[v[0]], answers[v[1]]));
            case "alike": {
                slot(v[0], v[1]);
                answer(v[2]);
                upTo(1, v[3]);
                Stepped stepped = new Stepped(slots[v[0]], slots[v[1]]);
                Classed classed = new Classed(slots[v[0]], slots[v[1]]);
                boolean can = v[3] == 0 ? stepped.why == 0 : classed.can;
                return can ? putAnswer(v[2], v[3] == 0 ? stepped.answer() : classed.answer()) : did(NONE);
            }
            case "match": {
                slot(v[0], v[1]);
                answer(v[2]);
                Map<Integer, Tree> told = new HashMap<>();
                if (!matched(slots[v[0]], slots[v[1]], told)) {
                    return did(NONE);
                }
                Tree[] all = new Model().answers[0];
                told.forEach((n, tree) -> all[n] = tree);
                return putAnswer(v[2], all);
            }
            case "knock":
                return ++knocks;
            default:
                return ask(call, v);
        }
    }

    Object ask(String call, int[] v) {
        switch (call) {
            case "text":
                slot(v[0]);
                return slots[v[0]].text();
            case "size":
                slot(v[0]);
                return slots[v[0]].size;
            case "depth":
                slot(v[0]);
                return (long) slots[v[0]].depth();
            case "shared":
                slot(v[0]);
                return (long) slots[v[0]].unlike().size();
            case "letter":
            case "sizeAt": {
                slot(v[0]);
                if (v[1] < 0 || v[1] >= slots[v[0]].size) {
                    return -9L;
                }
                Tree at = slots[v[0]].places().get(v[1]);
                return call.equals("letter") ? at.letter : at.size;
            }
            case "count":
                slot(v[0]);
                upTo(7, v[1]);
                return slots[v[0]].places().stream().filter(t -> t.letter == v[1]).count();
            case "names":
                slot(v[0]);
                return (long) slots[v[0]].names();
            case "find": {
                slot(v[0], v[1]);
                List<Tree> places = slots[v[0]].places();
                for (int k = 0; k < places.size(); k++) {
                    if (places.get(k).same(slots[v[1]])) {
                        return (long) k;
                    }
                }
                return -1L;
            }
            case "differ": {
                slot(v[0], v[1]);
                int[] a = slots[v[0]].places().stream().mapToInt(t -> t.letter).toArray();
                int[] b = slots[v[1]].places().stream().mapToInt(t -> t.letter).toArray();
                return (long) Arrays.mismatch(a, b);
            }
            case "is":
                slot(v[0], v[1]);
                upTo(2, v[2]);
                return v[2] == 0 ? slots[v[0]].same(slots[v[1]])
                        : comesFrom(slots[v[0]], slots[v[1]])
                                && (v[2] == 2 || comesFrom(slots[v[1]], slots[v[0]]));
            case "can":
                slot(v[0], v[1]);
                upTo(1, v[2]);
                return v[2] == 0 ? new Stepped(slots[v[0]], slots[v[1]]).why == 0
                        : new Classed(slots[v[0]], slots[v[1]]).can;
            case "steps":
                slot(v[0], v[1]);
                return (long) new Stepped(slots[v[0]], slots[v[1]]).steps;
            case "why":
                slot(v[0], v[1]);
                return (long) new Stepped(slots[v[0]], slots[v[1]]).why;
            default:
                return askAnswer(call, v);
        }
    }

    private Object askAnswer(String call, int[] v) {
        switch (call) {
            case "told":
                answer(v[0]);
                upTo(7, v[1]);
                return answers[v[0]][v[1]].text();
            case "moved":
                answer(v[0]);
                return moved(answers[v[0]]);
            case "makes":
                answer(v[0]);
                slot(v[1], v[2]);
                return used(answers[v[0]], slots[v[1]]).same(used(answers[v[0]], slots[v[2]]));
            case "isSo": {
                answer(v[0]);
                upTo(1, v[1]);
                if (v[1] == 0) {
                    return sameAll(answers[v[0]], behind(answers[v[0]], answers[v[0]]));
                }
                Set<Integer> names = new HashSet<>();
                for (Tree tree : answers[v[0]]) {
                    names.add(tree.letter);
                }
                return names.size() == 8 && names.stream().allMatch(n -> n < 8);
            }
            case "unlike":
                answer(v[0], v[1]);
                for (int n = 0; n < 8; n++) {
                    if (!answers[v[0]][n].same(answers[v[1]][n])) {
                        return (long) n;
                    }
                }
                return -1L;
            case "weight": {
                answer(v[0]);
                Set<String> unlike = new HashSet<>();
                long sum = 0;
                for (int n = 0; n < 8; n++) {
                    if ((moved(answers[v[0]]) >> n & 1) == 1) {
                        sum += answers[v[0]][n].size;
                        unlike.addAll(answers[v[0]][n].unlike());
                    }
                }
                return v[1] == 1 ? unlike.size() : sum;
            }
            case "house":
                upTo(4, v[0]);
                return house(v[0]);
            case "isSound":
                return true;
            case "digest":
                return digest();
            default:
                throw new IllegalStateException("no such call: " + call);
        }
    }

    private long house(int what) {
        long sizes = 0;
        for (Tree tree : slots) {
            sizes += tree.size;
        }
        long moves = 0;
        for (Tree[] answer : answers) {
            moves += Long.bitCount(moved(answer));
        }
        return new long[] {done, refused, knocks, sizes, moves}[what];
    }

    private long digest() {
        List<Long> all = new ArrayList<>();
        for (Tree tree : slots) {
            all.add(tree.size);
            all.add((long) tree.depth());
            all.add((long) tree.unlike().size());
            all.add((long) tree.names());
            tree.places().forEach(t -> all.add((long) t.letter));
        }
        for (Tree[] answer : answers) {
            all.add(moved(answer));
            for (int n = 0; n < 8; n++) {
                if ((moved(answer) >> n & 1) == 1) {
                    all.add((long) n);
                    all.add(answer[n].size);
                    answer[n].places().forEach(t -> all.add((long) t.letter));
                }
            }
        }
        Stepped stepped = new Stepped(slots[0], slots[1]);
        all.add((long) stepped.steps);
        all.add((long) stepped.why);
        for (int what = 0; what <= 4; what++) {
            all.add(house(what));
        }
        all.add(1L);
        long d = 8024;
        for (long v : all) {
            d = d * 31 + v;
        }
        return d;
    }
}
