import java.math.BigInteger;
import java.util.ArrayList;
import java.util.List;

/** Each boundary that the document's sentences name, promise by promise, worked out by hand. */
public final class BoundaryTests {
    private static final Check CHECK = new Check();
    /** With a SIZE of 15 and all 8 NAMES. */
    private static final String EIGHT = "P(P(P(a,b),P(c,d)),P(P(e,f),P(g,h)))";
    /** With a SIZE of 16 and the most PLACES without PARTS. */
    private static final String ELEVEN = "S(S(S(S(S(a,a,a),a,a),a,a),a,a),a,a)";

    private static void run(String name, String... lines) {
        Script.run(CHECK, name, lines);
    }

    /** M in M, as deep as this has a SIZE, with that at its end. */
    private static String chain(int size, String end) {
        StringBuilder all = new StringBuilder();
        for (int k = 1; k < size; k++) {
            all.append("M(");
        }
        all.append(end);
        for (int k = 1; k < size; k++) {
            all.append(')');
        }
        return all.toString();
    }

    // ---- the description and a new object

    private static void p1new() {
        run("1 the greatest SLOT there is and none beyond", "text 5 = f", "text no6 ! slot");
        run("1 the least SLOT there is", "text 0 = a", "text -1 ! slot");
        run("1 the greatest ANSWER and none beyond", "moved 2 = 0", "moved no3 ! slot");
        run("1 the greatest NAME and none beyond", "told 0 7 = h", "told 0 no8 ! word");
        run("1 the NAMES 6 and 7 are in no SLOT", "names 0 = 1", "names 1 = 2", "names 2 = 4", "names 3 = 8",
                "names 4 = 16", "names 5 = 32");
        for (int k = 0; k < 3; k++) {
            for (int n = 0; n < 8; n++) {
                CHECK.due("1 each ANSWER tells each NAME of itself", String.valueOf((char) ('a' + n)),
                        new Branchmatch().told(k, n));
            }
        }
        run("1 nothing was done yet", "house 0 = 0", "house 1 = 0", "house 2 = 0", "house 3 = 6", "house 4 = 0");
        Branchmatch one = new Branchmatch();
        Branchmatch other = new Branchmatch();
        one.head(0, 4, 1, 2, 0);
        one.tell(0, 3, 0);
        one.part(0, 9, 0);
        one.knock();
        CHECK.due("1 an object leaves another one", new Branchmatch().digest(), other.digest());
    }

    private static void calls512() {
        for (String last : new String[] {"text", "digest", "alike", "knock", "house", "graft"}) {
            Branchmatch x = new Branchmatch();
            Model model = new Model();
            for (int k = 0; k < 511; k++) {
                int[] v = {k % 6, 2 + k % 6, k * 5 % 6, k * 7 % 6, k * 11 % 6};
                boolean isName = k % 5 == 0;
                Calls.call(x, isName ? "name" : "head", v);
                model.act(isName ? "name" : "head", v);
            }
            int[] v = {0, 1, 0, 0};
            Object due = model.act(last, v);
            CHECK.due("the call number 512: " + last, String.valueOf(due), String.valueOf(Calls.call(x, last, v)));
        }
    }

    private static void whatStays() {
        run("a TERM stays as it is in all other places", "set 0 P(a,M(b))", "copy 0 1 = 4", "tell 0 0 0 = 1",
                "take 0 1 = 1", "part 0 2 2 = 2", "head 3 2 0 0 0 = 5", "graft 0 1 4 = 4", "shift 0 1 = 2",
                "put 0 2 4 = 1", "text 0 = P(f,M(e))", "plain 0 = 2", "name 0 7 = 4", "text 1 = P(a,M(b))", "told 0 0 = P(a,M(b))",
                "told 1 0 = P(a,M(b))", "text 2 = M(b)", "text 3 = M(P(a,M(b)))");
        run("an ANSWER stays as it is when what it was made of goes", "learn 0 a=P(b,b)", "learn 1 b=K",
                "behind 0 1 2 = 2", "forget 0 = 1", "forget 1 = 1", "told 2 0 = P(K,K)", "told 2 1 = K");
        run("an ANSWER stays as it is when the TERMS made alike go", "set 0 a", "set 1 P(b,c)", "alike 0 1 0 0 = 1",
                "alike 0 1 1 1 = 1", "match 0 1 2 = 1", "name 0 6 = 1", "name 1 6 = 3", "told 0 0 = P(b,c)",
                "told 1 0 = P(b,c)", "told 2 0 = P(b,c)");
    }

    private static void whatCounts() {
        run("done, also if nothing is other then", "name 0 0 = 1", "house 0 = 1", "copy 0 0 = 1", "house 0 = 2",
                "swap 0 0 = 0", "house 0 = 3", "part 0 0 0 = 1", "house 0 = 4", "graft 0 0 0 = 1", "house 0 = 5",
                "put 0 7 1 = 0", "house 0 = 6", "shift 0 0 = 1", "house 0 = 7", "plain 0 = 1", "house 0 = 8",
                "use 0 0 0 = 1", "house 0 = 9", "common 0 0 0 = 1", "house 0 = 10", "forget 0 = 0", "house 0 = 11",
                "tell 0 0 0 = 0", "house 0 = 12", "take 0 0 = 0", "house 0 = 13", "behind 0 0 0 = 0", "house 0 = 14",
                "alike 0 0 0 0 = 0", "house 0 = 15", "alike 0 0 0 1 = 0", "house 0 = 16", "match 0 0 0 = 0",
                "house 0 = 17", "house 1 = 0");
        run("done, also if NONE is told", "head 0 0 0 0 0 = 1", "head 1 1 0 0 0 = 1", "alike 0 1 0 0 = -1",
                "house 0 = 3", "alike 0 1 0 1 = -1", "house 0 = 4", "match 0 1 0 = -1", "house 0 = 5", "house 1 = 0");
        run("what is asked is not counted, -9 neither", "letter 0 1 = -9", "letter 0 -1 = -9", "sizeAt 0 1 = -9",
                "sizeAt 0 -1 = -9", "find 0 1 = -1", "differ 0 0 = -1", "unlike 0 0 = -1", "house 0 = 0",
                "house 1 = 0");
        run("a knock is no act", "knock = 1", "house 0 = 0", "house 1 = 0", "house 2 = 1");
        run("each REFUSED is counted, and is none that is done", "set 0 " + chain(16, "a"), "set 1 P(a,a)",
                "name 5 5 = 1", "head 1 2 0 0 0 = -9", "house 1 = 1", "part 1 3 1 = -9", "house 1 = 2",
                "graft 1 1 0 = -9", "house 1 = 3", "put 1 0 0 = -9", "house 1 = 4", "tell 0 0 0 = 1",
                "use 0 1 1 = -9", "house 1 = 5", "behind 0 0 0 = -9", "house 1 = 6");
    }

    // ---- acts: TERMS

    private static void p2name() {
        run("2 the least and the greatest NAME, and the first beyond each", "name 0 0 = 1", "text 0 = a",
                "name 0 7 = 1", "text 0 = h", "name 0 -1 ! word", "name 0 8 ! word", "text 0 = h", "house 0 = 2");
        run("2 the least and the greatest SLOT, and the first beyond each", "name 0 6 = 1", "text 0 = g",
                "name 5 6 = 1", "text 5 = g", "name -1 6 ! slot", "name 6 6 ! slot", "house 0 = 2");
        run("2 the greatest SIZE that it had", "set 3 " + chain(16, "K"), "name 3 1 = 16", "name 3 1 = 1");
        run("2 no such SLOT goes ahead of no such NAME", "name no6 no8 ! slot");
    }

    private static void p3head() {
        run("3 the least and the greatest HEAD, and the first beyond each", "head 0 0 1 2 3 = 1", "text 0 = K",
                "head 0 7 1 2 3 = 4", "text 0 = T(b,c,d)", "head 0 -1 1 2 3 ! word", "head 0 8 1 2 3 ! word",
                "text 0 = T(b,c,d)");
        run("3 each HEAD has as many PARTS as it has", "head 0 0 1 2 3 = 1", "text 0 = K", "head 0 1 1 2 3 = 1",
                "text 0 = L", "head 0 2 1 2 3 = 2", "text 0 = M(b)", "head 0 3 1 2 3 = 2", "text 0 = N(b)",
                "head 0 4 1 2 3 = 3", "text 0 = P(b,c)", "head 0 5 1 2 3 = 3", "text 0 = Q(b,c)",
                "head 0 6 1 2 3 = 4", "text 0 = S(b,c,d)", "head 0 7 1 2 3 = 4", "text 0 = T(b,c,d)");
        run("3 SIZE of just 16 and one above, one PART", "set 0 " + chain(15, "a"), "head 1 2 0 3 3 = 16",
                "text 1 = " + chain(16, "a"), "head 0 2 1 3 3 = -9", "head 0 3 1 3 3 = -9", "size 0 = 15");
        run("3 SIZE of just 16 and one above, two PARTS", "set 0 " + chain(7, "a"), "set 1 " + chain(8, "a"),
                "head 2 4 0 1 3 = 16", "head 2 5 1 0 3 = 16", "head 2 4 1 1 3 = -9", "head 2 5 1 1 3 = -9",
                "text 2 = Q(" + chain(8, "a") + "," + chain(7, "a") + ")");
        run("3 SIZE of just 16 and one above, three PARTS", "set 0 " + chain(5, "a"), "set 1 " + chain(6, "a"),
                "head 2 6 0 0 0 = 16", "head 2 7 0 0 0 = 16", "head 2 6 1 0 0 = -9", "head 2 6 0 1 0 = -9",
                "head 2 7 0 0 1 = -9", "size 2 = 16");
        run("3 the greatest SIZE it could need", "set 0 " + chain(16, "a"), "head 1 6 0 0 0 = -9", "head 0 7 0 0 0 = -9",
                "text 1 = b", "text 0 = " + chain(16, "a"));
        run("3 the SLOTS that are no PARTS do not count", "set 0 " + chain(16, "a"), "head 1 0 0 0 0 = 1",
                "head 1 2 2 0 0 = 2", "head 1 4 2 3 0 = 3", "head 0 1 0 0 0 = 1");
        run("3 the SLOTS that are no PARTS are SLOTS", "head 0 0 no6 0 0 ! slot", "head 0 0 0 no6 0 ! slot",
                "head 0 0 0 0 no6 ! slot", "head 0 2 0 no6 0 ! slot", "head 0 2 0 0 no6 ! slot");
        run("3 the last SLOT that is no PART is one", "head 0 4 0 0 no6 ! slot", "head 0 5 0 0 no6 ! slot",
                "text 0 = a");
        run("3 the same SLOT for all", "head 0 6 0 0 0 = 4", "text 0 = S(a,a,a)", "head 0 2 0 0 0 = 5",
                "text 0 = M(S(a,a,a))", "head 0 4 0 0 0 = 11", "text 0 = P(M(S(a,a,a)),M(S(a,a,a)))");
        run("3 exceptions go ahead of REFUSED", "set 0 " + chain(16, "a"), "head 0 8 0 0 0 ! word",
                "head 6 2 0 0 0 ! slot", "head 0 2 6 0 0 ! slot", "house 1 = 0");
        run("3 several exceptions", "head no6 no8 0 0 0 ! slot");
        run("3 several exceptions, of a PART", "head 0 no8 0 0 6 ! slot", "head 0 no8 0 -1 0 ! slot");
    }

    private static void p4p5() {
        run("4 into the same SLOT", "set 0 P(a,M(b))", "copy 0 0 = 4", "text 0 = P(a,M(b))");
        run("4 the least and the greatest SLOT, and the first beyond each", "set 0 M(h)", "copy 0 5 = 2", "text 5 = M(h)",
                "name 0 3 = 2", "copy 5 0 = 2", "text 0 = M(h)", "copy -1 0 ! slot", "copy 6 0 ! slot",
                "copy 0 -1 ! slot", "copy 0 6 ! slot", "copy 6 6 ! slot");
        run("4 the greatest SIZE over the least, and the least over the greatest", "set 0 " + chain(16, "h"),
                "copy 0 1 = 16", "text 1 = " + chain(16, "h"), "copy 2 1 = 1", "text 1 = c",
                "text 0 = " + chain(16, "h"));
        run("5 with the same SLOT", "set 0 P(a,M(b))", "swap 0 0 = 0", "text 0 = P(a,M(b))");
        run("5 two SLOTS with the same TERM", "set 0 " + ELEVEN, "copy 0 5 = 16", "swap 0 5 = 0", "text 0 = " + ELEVEN,
                "text 5 = " + ELEVEN);
        run("5 TERMS unlike at their last PLACE alone", "set 0 " + chain(16, "a"), "set 1 " + chain(16, "b"),
                "swap 0 1 = 1", "text 0 = " + chain(16, "b"), "text 1 = " + chain(16, "a"));
        run("5 the least and the greatest SIZE", "set 0 " + ELEVEN, "swap 0 4 = 1", "text 0 = e", "text 4 = " + ELEVEN,
                "size 0 = 1", "size 4 = 16");
        run("5 the least and the greatest SLOT, and the first beyond each", "swap 0 5 = 1", "text 0 = f", "text 5 = a",
                "swap -1 0 ! slot", "swap 6 0 ! slot", "swap 0 -1 ! slot", "swap 0 6 ! slot", "swap 6 -1 ! slot");
    }

    private static void p6part() {
        run("6 the least PLACE and the first below", "set 0 P(a,M(b))", "part 0 0 1 = 4", "text 1 = P(a,M(b))",
                "part 0 -1 2 = -9", "part 0 " + Integer.MIN_VALUE + " 2 = -9", "text 2 = c");
        run("6 the greatest PLACE and the first above", "set 0 P(a,M(b))", "part 0 3 1 = 1", "text 1 = b",
                "part 0 4 2 = -9", "part 0 " + Integer.MAX_VALUE + " 2 = -9", "text 2 = c");
        run("6 the greatest PLACE of all and the first above", "set 0 " + ELEVEN, "part 0 15 1 = 1", "text 1 = a",
                "part 0 16 1 = -9", "part 0 17 1 = -9");
        run("6 the one PLACE of the least SIZE, and one above", "part 0 0 1 = 1", "text 1 = a", "part 0 1 1 = -9",
                "part 0 15 1 = -9");
        run("6 no PLACE of what stood there before", "set 0 " + ELEVEN, "name 0 3 = 16", "part 0 1 1 = -9",
                "text 1 = b");
        run("6 into the same SLOT", "set 0 P(M(c),M(b))", "part 0 3 0 = 2", "text 0 = M(b)", "part 0 0 0 = 2",
                "part 0 1 0 = 1", "text 0 = b", "part 0 1 0 = -9", "text 0 = b");
        run("6 the greatest SIZE and one less", "set 0 " + chain(16, "a"), "part 0 0 1 = 16", "part 0 1 1 = 15",
                "text 1 = " + chain(15, "a"));
        run("6 no such SLOT goes ahead of no such PLACE", "part no6 1 0 ! slot", "part 0 1 no6 ! slot", "house 1 = 0");
        run("6 the least and the greatest SLOT", "part 5 0 0 = 1", "text 0 = f", "part 1 0 5 = 1", "text 5 = b");
    }

    private static void p7graft() {
        run("7 the least PLACE and the first below", "set 0 P(a,M(b))", "graft 0 0 2 = 1", "text 0 = c",
                "graft 0 -1 3 = -9", "graft 0 " + Integer.MIN_VALUE + " 3 = -9", "text 0 = c");
        run("7 the greatest PLACE and the first above", "set 0 P(a,M(b))", "graft 0 3 2 = 4", "text 0 = P(a,M(c))",
                "graft 0 4 3 = -9", "graft 0 " + Integer.MAX_VALUE + " 3 = -9", "text 0 = P(a,M(c))");
        run("7 the greatest PLACE of all and the first above", "set 0 " + chain(16, "a"), "graft 0 15 1 = 16",
                "text 0 = " + chain(16, "b"), "graft 0 16 2 = -9", "text 0 = " + chain(16, "b"));
        run("7 SIZE of just 16 and one above", "set 0 P(a,M(b))", "set 1 " + chain(13, "c"), "graft 0 1 1 = 16",
                "text 0 = P(" + chain(13, "c") + ",M(b))", "set 0 P(a,M(b))", "set 1 " + chain(14, "c"),
                "graft 0 1 1 = -9", "graft 0 3 1 = -9", "text 0 = P(a,M(b))", "graft 0 2 1 = 16",
                "text 0 = P(a," + chain(14, "c") + ")");
        run("7 SIZE of 16 for one of 16, and one above", "set 0 " + chain(16, "a"), "set 1 M(b)", "set 2 N(K)",
                "graft 0 15 1 = -9", "graft 0 14 2 = 16", "text 0 = " + chain(15, "N(K)"));
        run("7 the same SLOT", "set 0 P(a,b)", "graft 0 2 0 = 5", "text 0 = P(a,P(a,b))", "graft 0 0 0 = 5",
                "text 0 = P(a,P(a,b))");
        run("7 the same SLOT, SIZE of just 16 and one above", "set 0 " + chain(9, "a"), "graft 0 8 0 = -9",
                "text 0 = " + chain(9, "a"), "graft 0 7 0 = 16", "text 0 = " + chain(16, "a"), "graft 0 1 0 = -9");
        run("7 the greatest SIZE comes at the least PLACE alone", "set 0 M(a)", "set 1 " + ELEVEN, "graft 0 1 1 = -9",
                "text 0 = M(a)", "graft 0 0 1 = 16", "text 0 = " + ELEVEN, "text 1 = " + ELEVEN);
        run("7 no such PLACE and a SIZE above 16 is REFUSED once", "set 0 " + ELEVEN, "graft 0 16 0 = -9", "house 1 = 1");
        run("7 no such SLOT goes ahead of no such PLACE", "graft no6 1 0 ! slot", "graft 0 1 no6 ! slot", "house 1 = 0");
    }

    private static void p8put() {
        run("8 the least and the greatest NAME, and the first beyond each", "set 0 P(a,h)", "put 0 0 1 = 1",
                "put 0 7 2 = 1", "text 0 = P(b,c)", "put 0 -1 3 ! word", "put 0 8 3 ! word", "text 0 = P(b,c)");
        run("8 a NAME that stands at no PLACE", "set 0 P(a,M(K))", "set 1 " + ELEVEN, "put 0 1 1 = 0",
                "text 0 = P(a,M(K))", "set 2 K", "put 2 0 1 = 0", "text 2 = K");
        run("8 a NAME at the most PLACES", "set 0 " + ELEVEN, "put 0 0 1 = 11",
                "text 0 = S(S(S(S(S(b,b,b),b,b),b,b),b,b),b,b)");
        run("8 SIZE of just 16 and one above, at three PLACES and two", "set 0 S(a,a,a)", "set 1 " + chain(5, "b"),
                "put 0 0 1 = 3", "size 0 = 16", "set 0 P(a,a)", "set 1 " + chain(8, "b"), "put 0 0 1 = -9",
                "text 0 = P(a,a)");
        run("8 SIZE of just 16 and one above, at one PLACE", "set 0 M(a)", "set 1 " + chain(15, "b"), "put 0 0 1 = 1",
                "text 0 = " + chain(16, "b"), "set 0 M(a)", "set 1 " + chain(16, "b"), "put 0 0 1 = -9",
                "text 0 = M(a)", "name 0 0 = 2", "put 0 0 1 = 1", "text 0 = " + chain(16, "b"));
        run("8 the greatest SIZE it could need", "set 0 " + ELEVEN, "put 0 0 0 = -9", "text 0 = " + ELEVEN);
        run("8 all at once: the NAME stands in what it becomes", "set 0 P(a,b)", "set 1 P(b,a)", "put 0 0 1 = 1",
                "text 0 = P(P(b,a),b)", "put 0 1 1 = 2", "text 0 = P(P(P(b,a),a),P(b,a))");
        run("8 the same SLOT", "set 0 P(a,a)", "put 0 0 0 = 2", "text 0 = P(P(a,a),P(a,a))", "put 0 1 0 = 0",
                "put 0 0 0 = -9", "text 0 = P(P(a,a),P(a,a))");
        run("8 a NAME becomes itself", "set 0 P(d,d)", "put 0 3 3 = 2", "text 0 = P(d,d)");
        run("8 no such SLOT goes ahead of no such NAME", "put no6 no8 0 ! slot");
        run("8 no such SLOT that has it goes ahead of no such NAME", "put 0 no8 no6 ! slot");
        run("8 exceptions go ahead of REFUSED", "set 0 " + ELEVEN, "put 0 8 0 ! word", "put 0 0 6 ! slot",
                "house 1 = 0");
    }

    private static void p9p10() {
        run("9 the least and the greatest by, and the first beyond each", "set 0 P(a,h)", "shift 0 0 = 2",
                "text 0 = P(a,h)", "shift 0 7 = 2", "text 0 = P(h,g)", "shift 0 -1 ! word", "shift 0 8 ! word",
                "text 0 = P(h,g)");
        run("9 n + by of 7 and of 8", "set 0 P(g,h)", "shift 0 1 = 2", "text 0 = P(h,a)", "set 0 P(a,b)", "shift 0 7 = 2",
                "text 0 = P(h,a)");
        run("9 n + by at the most", "name 0 7 = 1", "shift 0 7 = 1", "text 0 = g");
        run("9 no NAMES and all 8", "set 0 P(K,L)", "shift 0 5 = 0", "text 0 = P(K,L)", "set 1 " + EIGHT,
                "shift 1 3 = 8", "text 1 = P(P(P(d,e),P(f,g)),P(P(h,a),P(b,c)))", "names 1 = 255");
        run("9 HEADS stay, at the greatest SIZE, too", "set 0 " + ELEVEN, "shift 0 4 = 1",
                "text 0 = S(S(S(S(S(e,e,e),e,e),e,e),e,e),e,e)");
        run("9 no such SLOT goes ahead of no such by", "shift no6 no8 ! slot");
        run("10 no NAMES, one and all 8", "set 0 Q(K,L)", "plain 0 = 0", "text 0 = Q(K,L)", "name 1 7 = 1", "plain 1 = 1",
                "text 1 = a", "set 2 P(P(P(h,g),P(f,e)),P(P(d,c),P(b,a)))", "plain 2 = 8", "text 2 = " + EIGHT);
        run("10 already PLAIN", "set 0 " + EIGHT, "plain 0 = 8", "text 0 = " + EIGHT, "plain 0 = 8");
        run("10 each the same at all its PLACES", "set 0 S(S(S(S(S(h,c,h),c,a),h,c),a,a),h,c)", "plain 0 = 3",
                "text 0 = S(S(S(S(S(a,b,a),b,c),a,b),c,c),a,b)");
        run("10 the least and the greatest SLOT, and the first beyond each", "plain 5 = 1", "text 5 = a", "plain 0 = 1",
                "text 0 = a", "plain -1 ! slot", "plain 6 ! slot");
    }

    private static void p11use() {
        run("11 SIZE of just 16 and one above", "learn 0 a=" + chain(15, "b"), "learn 1 a=" + chain(16, "b"), "set 0 M(a)",
                "use 0 0 1 = 16", "text 1 = " + chain(16, "b"), "use 1 0 1 = -9", "text 1 = " + chain(16, "b"),
                "name 0 0 = 2", "use 1 0 2 = 16", "text 2 = " + chain(16, "b"));
        run("11 the greatest SIZE it could need", "learn 2 a=" + ELEVEN, "set 0 " + ELEVEN, "use 2 0 0 = -9",
                "text 0 = " + ELEVEN);
        run("11 an ANSWER that MOVES none", "set 0 " + ELEVEN, "use 0 0 1 = 16", "text 1 = " + ELEVEN);
        run("11 a TERM without NAMES", "learn 0 a=" + ELEVEN, "set 0 P(K,L)", "use 0 0 1 = 3", "text 1 = P(K,L)");
        run("11 all at once: NAMES in what is told stay", "learn 0 a=b", "learn 0 b=P(a,b)", "set 0 P(a,b)",
                "use 0 0 1 = 5", "text 1 = P(b,P(a,b))");
        run("11 the same SLOT", "learn 0 a=P(a,a)", "name 0 0 = 1", "use 0 0 0 = 3", "use 0 0 0 = 7", "use 0 0 0 = 15",
                "use 0 0 0 = -9", "size 0 = 15");
        run("11 the least and the greatest NAME", "learn 0 a=K", "learn 0 h=L", "set 0 P(a,h)", "use 0 0 0 = 3",
                "text 0 = P(K,L)");
        run("11 the least and the greatest SLOT and ANSWER", "learn 2 f=K", "name 5 5 = 1", "use 2 5 0 = 1", "text 0 = K",
                "use 0 1 5 = 1", "text 5 = b");
        run("11 the first beyond each", "use 3 0 0 ! slot", "use -1 0 0 ! slot", "use 0 6 0 ! slot", "use 0 -1 0 ! slot",
                "use 0 0 6 ! slot", "use 0 0 -1 ! slot", "use 3 6 6 ! slot");
        run("11 exceptions go ahead of REFUSED", "learn 0 a=" + ELEVEN, "set 0 M(a)", "use 0 0 6 ! slot", "house 1 = 0");
    }

    private static void p12common() {
        String nine = "S(S(S(S(a,b,c),d,e),f,g),h,K)";
        run("12 just 8 NAMES", "set 0 S(S(S(S(a,b,c),d,e),f,g),h,K)", "set 1 S(S(S(S(b,c,d),e,f),g,h),a,K)",
                "common 0 1 2 = 13", "text 2 = S(S(S(S(a,b,c),d,e),f,g),h,K)");
        run("12 one more than 8 NAMES", "set 0 " + nine, "set 1 S(S(S(S(b,c,d),e,f),g,h),a,L)", "common 0 1 2 = -9",
                "text 2 = c", "common 1 0 2 = -9", "house 1 = 2");
        run("12 just 8 NAMES at nine PLACES, like pairs once", "set 0 S(S(S(S(a,b,c),d,e),f,g),h,a)",
                "set 1 S(S(S(S(b,c,d),e,f),g,h),a,b)", "common 0 1 2 = 13", "text 2 = S(S(S(S(a,b,c),d,e),f,g),h,a)");
        run("12 a pair and the other way round are unlike pairs", "set 0 S(S(S(S(a,b,c),d,e),f,g),h,b)",
                "set 1 S(S(S(S(b,c,d),e,f),g,h),a,a)", "common 0 1 2 = -9", "common 1 0 2 = -9");
        // Pairs number 10 and further must not be taken for HEADS either.
        run("12 the most pairs there are", "set 0 S(S(S(S(S(a,b,c),d,e),f,g),h,K),L,a)",
                "set 1 S(S(S(S(S(c,c,d),c,c),c,c),c,c),c,c)", "common 0 1 2 = -9", "text 2 = c", "common 1 0 1 = -9");
        run("12 none that needs a NAME", "set 0 P(K,M(L))", "set 1 P(K,M(L))", "common 0 1 2 = 4", "text 2 = P(K,M(L))");
        run("12 all that needs a NAME", "set 0 " + ELEVEN, "set 1 " + chain(16, "a"), "common 0 1 2 = 1", "text 2 = a");
        run("12 the same SLOT", "set 0 P(h,P(c,h))", "common 0 0 2 = 5", "text 2 = P(a,P(b,a))", "common 0 0 0 = 5",
                "text 0 = P(a,P(b,a))", "set 1 " + ELEVEN, "common 1 1 1 = 16", "text 1 = " + ELEVEN);
        run("12 into one of both", "set 0 P(K,L)", "set 1 P(K,b)", "common 0 1 0 = 3", "text 0 = P(K,a)", "set 0 P(K,L)",
                "common 0 1 1 = 3", "text 1 = P(K,a)");
        run("12 the same NAME twice gets a NAME", "name 0 6 = 1", "name 1 6 = 1", "common 0 1 2 = 1", "text 2 = a");
        run("12 HEADS with as many PARTS that are unlike", "set 0 P(S(a,b,c),K)", "set 1 P(T(a,b,c),L)", "common 0 1 2 = 3",
                "text 2 = P(a,b)");
        run("12 like TERMS in unlike pairs", "set 0 P(K,K)", "set 1 P(L,M(L))", "common 0 1 2 = 3", "text 2 = P(a,b)",
                "common 1 0 2 = 3", "text 2 = P(a,b)");
        run("12 PARTS with unlike SIZES that are ahead of others", "set 0 S(P(a,M(b)),M(c),P(a,M(b)))", "set 1 S(K,M(L),K)",
                "common 0 1 2 = 5", "text 2 = S(a,M(b),a)", "common 1 0 2 = 5", "text 2 = S(a,M(b),a)",
                "set 0 Q(P(M(K),b),P(M(K),c))", "set 1 Q(P(a,M(M(b))),P(a,c))", "common 0 1 2 = 7",
                "text 2 = Q(P(a,b),P(a,c))", "common 1 0 2 = 7", "text 2 = Q(P(a,b),P(a,c))");
        run("12 like pairs behind PARTS with unlike SIZES", "set 0 S(M(K),b,b)", "set 1 S(a,c,c)", "common 0 1 2 = 4",
                "text 2 = S(a,b,b)", "common 1 0 2 = 4", "text 2 = S(a,b,b)", "set 0 S(P(a,b),P(K,c),P(K,c))",
                "set 1 S(L,P(d,M(d)),P(d,M(d)))", "common 0 1 2 = 8", "text 2 = S(a,P(b,c),P(b,c))", "common 1 0 2 = 8",
                "text 2 = S(a,P(b,c),P(b,c))");
        run("12 the first beyond each SLOT", "common 6 0 0 ! slot", "common -1 0 0 ! slot", "common 0 6 0 ! slot",
                "common 0 -1 0 ! slot", "common 0 0 6 ! slot", "common 0 0 -1 ! slot", "common 6 6 6 ! slot");
        run("12 exceptions go ahead of REFUSED", "set 0 " + nine, "set 1 S(S(S(S(b,c,d),e,f),g,h),a,L)",
                "common 0 1 6 ! slot", "house 1 = 0", "common 0 1 5 = -9");
    }

    // ---- acts: ANSWERS

    /** Lines of a run that go on where the ANSWER 0 tells K of all NAMES. */
    private static String[] withAllMoved(String... lines) {
        List<String> all = new ArrayList<>(List.of("head 5 0 0 0 0 = 1"));
        for (int n = 0; n < 8; n++) {
            all.add("tell 0 " + n + " 5 = 1");
        }
        all.addAll(List.of(lines));
        return all.toArray(new String[0]);
    }

    private static void p13to15() {
        run("13 none MOVED and all 8", withAllMoved("forget 1 = 0", "forget 0 = 8", "moved 0 = 0", "forget 0 = 0"));
        run("13 the least and the greatest ANSWER, and the first beyond each", "learn 0 h=K", "learn 2 a=K", "forget 2 = 1",
                "moved 0 = 128", "forget 0 = 1", "forget -1 ! slot", "forget 3 ! slot");
        run("14 the least and the greatest NAME, and the first beyond each", "tell 0 0 1 = 1", "tell 0 7 1 = 1",
                "moved 0 = 129", "tell 0 -1 1 ! word", "tell 0 8 1 ! word", "moved 0 = 129");
        run("14 what it told before, and the NAME itself", "tell 0 4 4 = 0", "tell 0 4 3 = 1", "tell 0 4 3 = 0",
                "moved 0 = 16", "tell 0 4 4 = 1", "moved 0 = 0");
        run("14 the greatest SIZE, unlike at the last PLACE alone", "set 0 " + chain(16, "a"), "set 1 " + chain(16, "b"),
                "tell 1 3 0 = 1", "tell 1 3 0 = 0", "tell 1 3 1 = 1", "told 1 3 = " + chain(16, "b"));
        run("14 the NAME within a HEAD is another TERM than the NAME", "set 0 M(a)", "tell 0 0 0 = 1", "told 0 0 = M(a)",
                "moved 0 = 1", "tell 0 0 1 = 1", "told 0 0 = b");
        run("14 no such ANSWER or SLOT goes ahead of no such NAME", "tell no3 no8 0 ! slot");
        run("14 no such SLOT goes ahead of no such NAME", "tell 0 no8 no6 ! slot");
        run("14 the least and the greatest SLOT and ANSWER, and the first beyond each", "tell 2 0 5 = 1", "told 2 0 = f",
                "tell 0 5 0 = 1", "told 0 5 = a", "tell 3 0 0 ! slot", "tell -1 0 0 ! slot", "tell 0 0 6 ! slot",
                "tell 0 0 -1 ! slot");
        run("15 none MOVED and all 8", withAllMoved("take 0 2 = 8", "moved 2 = 255", "told 2 7 = K", "take 1 2 = 0",
                "moved 2 = 0", "moved 0 = 255"));
        run("15 the same ANSWER", withAllMoved("take 0 0 = 8", "told 0 0 = K", "told 0 7 = K", "take 1 1 = 0"));
        run("15 the greatest SIZE", "learn 0 h=" + ELEVEN, "take 0 1 = 1", "told 1 7 = " + ELEVEN);
        run("15 the first beyond each", "take 3 0 ! slot", "take -1 0 ! slot", "take 0 3 ! slot", "take 0 -1 ! slot",
                "take 3 3 ! slot");
    }

    private static void p16behind() {
        run("16 SIZE of just 16 and one above", "learn 0 a=M(b)", "learn 1 b=" + chain(15, "c"), "behind 0 1 2 = 2",
                "told 2 0 = " + chain(16, "c"), "told 2 1 = " + chain(15, "c"), "learn 1 b=" + chain(16, "c"),
                "behind 0 1 2 = -9", "told 2 0 = " + chain(16, "c"));
        run("16 SIZE above 16 of the greatest NAME alone", "learn 0 h=M(a)", "learn 1 a=" + chain(16, "c"),
                "behind 0 1 2 = -9", "moved 2 = 0", "behind 1 0 2 = 2", "told 2 7 = M(a)");
        run("16 the greatest SIZE is told of a NAME that the first one leaves", "learn 1 c=" + ELEVEN, "behind 0 1 2 = 1",
                "told 2 2 = " + ELEVEN);
        run("16 the same ANSWER", "learn 0 a=P(a,b)", "behind 0 0 0 = 1", "told 0 0 = P(P(a,b),b)", "behind 0 0 0 = 1",
                "told 0 0 = P(P(P(P(a,b),b),b),b)", "behind 0 0 0 = -9",
                "told 0 0 = P(P(P(P(a,b),b),b),b)");
        run("16 the same ANSWER, SIZE of just 15 and above 16", "learn 0 a=" + chain(8, "a"), "behind 0 0 1 = 1",
                "told 1 0 = " + chain(15, "a"), "learn 0 a=" + chain(9, "a"), "behind 0 0 0 = -9",
                "told 0 0 = " + chain(9, "a"));
        run("16 into the one and into the other one", "learn 0 a=M(b)", "learn 1 b=N(a)", "behind 0 1 0 = 2",
                "told 0 0 = M(N(a))", "told 0 1 = N(a)", "told 1 1 = N(a)", "behind 0 1 1 = 2", "told 1 0 = M(N(a))",
                "told 1 1 = N(a)");
        run("16 one that MOVES none, first or behind", "learn 0 a=" + ELEVEN, "behind 0 1 2 = 1", "unlike 0 2 = -1",
                "forget 2 = 1", "behind 1 0 2 = 1", "unlike 0 2 = -1");
        run("16 the NAMES go back to themselves", "learn 0 a=h", "learn 0 h=a", "behind 0 0 0 = 0", "moved 0 = 0");
        run("16 all 8 are MOVED", withAllMoved("behind 1 0 1 = 8", "told 1 0 = K", "behind 0 1 2 = 8", "told 2 7 = K"));
        run("16 the first beyond each", "behind 3 0 0 ! slot", "behind -1 0 0 ! slot", "behind 0 3 0 ! slot",
                "behind 0 -1 0 ! slot", "behind 0 0 3 ! slot", "behind 0 0 -1 ! slot", "behind 3 -1 3 ! slot");
        run("16 exceptions go ahead of REFUSED", "learn 0 a=" + chain(9, "a"), "behind 0 0 3 ! slot", "house 1 = 0",
                "behind 0 0 2 = -9");
    }

    private static void p17alike(int how) {
        String end = " " + how + " = ";
        run("17 SIZE of just 16 of a NAME", "set 0 a", "set 1 " + chain(16, "b"), "alike 0 1 0" + end + "1",
                "told 0 0 = " + chain(16, "b"), "alike 1 0 1" + end + "1", "unlike 0 1 = -1", "use 0 0 2 = 16");
        run("17 SIZE of just 16 by what NAMES stand for", "set 0 P(a,b)", "set 1 P(S(b,b,b)," + chain(5, "c") + ")",
                "alike 0 1 2" + end + "2", "told 2 1 = " + chain(5, "c"),
                "told 2 0 = S(" + chain(5, "c") + "," + chain(5, "c") + "," + chain(5, "c") + ")");
        run("17 one above 16 by what NAMES stand for", "learn 2 h=K", "set 0 P(a,b)",
                "set 1 P(P(b,b)," + chain(8, "c") + ")", "alike 0 1 2" + end + "-9", "alike 1 0 2" + end + "-9",
                "told 2 7 = K", "moved 2 = 128", "can 0 1 " + how + " = true", "house 1 = 2");
        run("17 the TERMS made alike may need more than 16, if none is told", "set 0 P(a,P(a,a))",
                "set 1 P(" + chain(6, "b") + ",c)", "alike 0 1 0" + end + "2", "told 0 0 = " + chain(6, "b"),
                "told 0 2 = P(" + chain(6, "b") + "," + chain(6, "b") + ")", "use 0 0 2 = -9", "makes 0 0 1 = true");
        run("17 far above 16", "set 0 S(a,b,S(c,d,e))",
                "set 1 S(P(b,b),P(c,c),S(P(d,d),P(e,e),f))", "alike 0 1 0" + end + "-9", "can 0 1 " + how + " = true");
        run("17 no NAME is MOVED", "learn 0 h=K", "set 0 " + ELEVEN, "copy 0 1 = 16", "alike 0 1 0" + end + "0",
                "moved 0 = 0", "set 0 P(K,L)", "alike 0 0 0" + end + "0");
        run("17 seven NAMES become the least one", "set 0 " + EIGHT, "set 1 P(P(P(a,a),P(a,a)),P(P(a,a),P(a,a)))",
                "alike 0 1 0" + end + "7", "moved 0 = 254", "told 0 7 = a", "told 0 1 = a",
                "set 1 P(P(P(b,c),P(d,e)),P(P(f,g),P(h,h)))", "alike 0 1 1" + end + "7", "unlike 0 1 = -1");
        run("17 all 8 NAMES are MOVED", "set 0 " + EIGHT, "set 1 P(P(P(K,K),P(K,K)),P(P(K,K),P(K,K)))",
                "alike 0 1 0" + end + "8", "moved 0 = 255", "told 0 0 = K", "told 0 7 = K");
        run("17 the same SLOT", "set 0 P(a,M(b))", "learn 1 a=K", "alike 0 0 1" + end + "0", "moved 1 = 0");
        run("17 a NAME and itself does no harm", "set 0 P(a,a)", "set 1 P(a,b)", "alike 0 1 0" + end + "1",
                "told 0 1 = a");
        run("17 NONE by a CLASH: all stays", "learn 0 h=K", "set 0 P(a,K)", "set 1 P(M(b),L)", "alike 0 1 0" + end + "-1",
                "told 0 7 = K", "moved 0 = 128");
        run("17 NONE by WITHIN: all stays", "learn 0 h=K", "set 0 P(a,b)", "set 1 P(M(b),M(a))", "alike 0 1 0" + end + "-1",
                "moved 0 = 128");
        run("17 NONE goes where REFUSED would", "set 0 S(a,b,K)", "set 1 S(P(b,b)," + chain(8, "c") + ",L)",
                "alike 0 1 0" + end + "-1", "house 1 = 0");
        run("17 WITHIN by a ring through seven NAMES", "set 0 S(S(S(a,b,c),d,e),f,g)",
                "set 1 S(S(S(M(b),M(c),M(d)),M(e),M(f)),M(g),a)", "alike 0 1 0" + end + "-1",
                "set 1 S(S(S(M(b),M(c),M(d)),M(e),M(f)),M(g),h)", "alike 0 1 0" + end + "7",
                "told 0 0 = M(M(M(M(M(M(g))))))", "told 0 7 = g");
        run("17 a chain through all 8 NAMES, upwards", "set 0 S(S(S(a,b,c),d,M(f)),M(g),P(M(h),h))",
                "set 1 S(S(S(M(b),M(c),M(d)),M(e),e),f,P(g,K))", "alike 0 1 0" + end + "8", "told 0 7 = K",
                "told 0 6 = M(K)", "told 0 0 = " + chain(8, "K"), "alike 1 0 1" + end + "8", "unlike 0 1 = -1");
        run("17 a chain through all 8 NAMES, downwards", "set 0 S(S(S(g,f,e),d,M(b)),M(a),P(M(h),h))",
                "set 1 S(S(S(M(f),M(e),M(d)),M(c),c),b,P(a,L))", "alike 0 1 0" + end + "8", "told 0 7 = L",
                "told 0 0 = M(L)", "told 0 6 = " + chain(8, "L"), "alike 1 0 1" + end + "8", "unlike 0 1 = -1");
        run("17 WITHIN by a ring through all 8 NAMES", "set 0 S(S(S(a,b,c),d,M(f)),M(g),P(M(h),h))",
                "set 1 S(S(S(M(b),M(c),M(d)),M(e),e),f,P(g,a))", "alike 0 1 0" + end + "-1", "why 0 1 = 2",
                "set 0 S(S(S(g,f,e),d,M(b)),M(a),P(M(h),h))", "set 1 S(S(S(M(f),M(e),M(d)),M(c),c),b,P(a,g))",
                "alike 0 1 0" + end + "-1", "why 0 1 = 2");
        run("17 all 8 NAMES stand for one another, and the least for a HEAD", "set 0 S(S(S(S(h,g,f),e,d),c,b),a,h)",
                "set 1 S(S(S(S(g,f,e),d,c),b,a),K,K)", "alike 0 1 0" + end + "8", "told 0 7 = K", "told 0 0 = K",
                "set 1 S(S(S(S(g,f,e),d,c),b,a),K,L)", "alike 0 1 0" + end + "-1");
        run("17 a ring of NAMES alone does no harm", "set 0 S(a,b,c)", "set 1 S(b,c,a)", "alike 0 1 0" + end + "2",
                "told 0 1 = a", "told 0 2 = a");
        run("17 HEADS with as many PARTS that are unlike", "set 0 S(a,b,c)", "set 1 T(a,b,c)", "alike 0 1 0" + end + "-1",
                "set 0 M(a)", "set 1 N(a)", "alike 0 1 0" + end + "-1", "set 0 K", "set 1 L", "alike 0 1 0" + end + "-1");
        run("17 exceptions go ahead of NONE and REFUSED", "set 0 a", "set 1 M(a)", "alike 0 1 3 " + how + " ! slot",
                "set 0 P(a,b)", "set 1 P(P(b,b)," + chain(8, "c") + ")", "alike 0 1 -1 " + how + " ! slot",
                "house 1 = 0");
    }

    private static void p17wrong() {
        run("17 the least and the greatest how, and the first beyond each", "alike 0 1 0 0 = 1", "alike 0 1 0 1 = 1",
                "alike 0 1 0 -1 ! word", "alike 0 1 0 2 ! word");
        run("17 how goes ahead of NONE and REFUSED", "set 0 a", "set 1 M(a)", "alike 0 1 0 no2 ! word", "set 0 P(a,b)",
                "set 1 P(P(b,b)," + chain(8, "c") + ")", "alike 0 1 0 no2 ! word", "house 1 = 0");
        run("17 the least and the greatest SLOT and ANSWER", "alike 0 5 2 0 = 1", "told 2 5 = a", "alike 5 0 0 1 = 1",
                "told 0 5 = a");
        run("17 the first beyond each", "alike 6 0 0 0 ! slot", "alike -1 0 0 0 ! slot", "alike 0 6 0 0 ! slot",
                "alike 0 -1 0 0 ! slot", "alike 0 0 3 0 ! slot", "alike 0 0 -1 0 ! slot");
        run("17 no such SLOT or ANSWER goes ahead of no such how", "alike no6 0 0 no2 ! slot");
        run("17 no such ANSWER goes ahead of no such how", "alike 0 no6 0 2 ! slot", "alike 0 0 no3 -1 ! slot",
                "alike 6 6 3 2 ! slot");
    }

    private static void p18match() {
        run("18 the greatest SIZE", "set 0 b", "set 1 " + ELEVEN, "match 0 1 0 = 1", "told 0 1 = " + ELEVEN, "set 0 " + ELEVEN,
                "match 0 1 0 = 0", "match 1 4 0 = -1");
        run("18 all 8 NAMES", "set 0 " + EIGHT, "set 1 P(P(P(b,c),P(d,e)),P(P(f,g),P(h,a)))", "match 0 1 0 = 8",
                "moved 0 = 255", "told 0 0 = b", "told 0 7 = a", "match 1 0 1 = 8", "behind 0 1 2 = 0");
        run("18 a NAME is told of itself", "set 0 P(a,b)", "set 1 P(a,M(a))", "match 0 1 0 = 1", "moved 0 = 2",
                "told 0 1 = M(a)");
        run("18 no NAME but such as stand in the first one", "learn 0 c=K", "learn 0 h=K", "set 0 M(a)", "set 1 M(P(c,h))",
                "match 0 1 0 = 1", "moved 0 = 1", "told 0 2 = c");
        run("18 the same SLOT", "learn 0 h=K", "set 0 P(a,M(b))", "match 0 0 0 = 0", "moved 0 = 0");
        run("18 no NAME in the first one", "set 0 P(K,L)", "copy 0 1 = 3", "match 0 1 0 = 0", "set 1 P(K,a)",
                "match 0 1 0 = -1", "match 1 0 0 = 1");
        run("18 NONE: all stays", "learn 0 h=K", "set 0 P(a,a)", "set 1 P(K,L)", "match 0 1 0 = -1", "moved 0 = 128",
                "told 0 7 = K", "house 1 = 0");
        run("18 NONE by the last PLACE alone", "set 0 " + ELEVEN, "set 1 S(S(S(S(S(K,K,K),K,K),K,K),K,K),K,L)",
                "match 0 1 0 = -1", "set 1 S(S(S(S(S(K,K,K),K,K),K,K),K,K),K,K)", "match 0 1 0 = 1", "told 0 0 = K");
        run("18 NAMES of the other one are what they are", "set 0 P(K,a)", "set 1 P(b,a)", "match 0 1 0 = -1", "set 0 P(b,a)",
                "set 1 P(a,b)", "match 0 1 0 = 2", "told 0 0 = b", "told 0 1 = a", "set 0 a", "set 1 M(a)",
                "match 0 1 0 = 1", "told 0 0 = M(a)");
        run("18 a TERM with a HEAD onto a NAME", "set 0 M(a)", "match 0 1 0 = -1", "match 0 0 0 = 0");
        run("18 the first beyond each", "match 6 0 0 ! slot", "match -1 0 0 ! slot", "match 0 6 0 ! slot",
                "match 0 -1 0 ! slot", "match 0 0 3 ! slot", "match 0 0 -1 ! slot", "match 6 6 3 ! slot");
        run("18 the least and the greatest SLOT and ANSWER", "match 0 5 2 = 1", "told 2 0 = f", "match 5 0 0 = 1",
                "told 0 5 = a");
        run("18 exceptions go ahead of NONE", "set 0 K", "match 0 1 3 ! slot", "match 0 1 2 = -1");
    }

    // ---- what is asked of TERMS

    private static void p19to22() {
        run("19 each letter there is", "set 0 S(T(a,b,c),P(d,Q(e,f)),S(g,h,K))",
                "text 0 = S(T(a,b,c),P(d,Q(e,f)),S(g,h,K))", "set 1 M(N(L))", "text 1 = M(N(L))");
        run("19 the least and the greatest SIZE, the most and no brackets", "text 0 = a", "set 0 " + chain(16, "L"),
                "text 0 = " + chain(16, "L"), "set 0 " + ELEVEN, "text 0 = " + ELEVEN, "set 1 K", "text 1 = K");
        run("19 brackets that close together, and commas behind them", "set 0 S(P(a,P(b,M(N(c)))),M(d),Q(M(e),f))",
                "text 0 = S(P(a,P(b,M(N(c)))),M(d),Q(M(e),f))");
        run("19 the least and the greatest SLOT, and the first beyond each", "text 0 = a", "text 5 = f", "text no6 ! slot");
        run("20 the least and the greatest SIZE", "size 0 = 1", "set 0 L", "size 0 = 1", "set 0 " + ELEVEN, "size 0 = 16",
                "set 0 " + chain(16, "a"), "size 0 = 16", "set 0 " + chain(15, "a"), "size 0 = 15");
        run("20 the least and the greatest SLOT, and the first beyond each", "size 0 = 1", "size 5 = 1", "size no6 ! slot");
        run("21 the least DEPTH: no PARTS", "depth 0 = 1", "set 0 K", "depth 0 = 1", "set 0 L", "depth 0 = 1");
        run("21 the greatest DEPTH", "set 0 " + chain(16, "K"), "depth 0 = 16", "set 0 " + chain(15, "K"), "depth 0 = 15");
        run("21 the greatest DEPTH of a PART, wherever it stands", "set 0 S(M(M(a)),b,c)", "depth 0 = 4", "set 0 S(b,M(M(a)),c)",
                "depth 0 = 4", "set 0 S(b,c,M(M(a)))", "depth 0 = 4", "set 0 " + ELEVEN, "depth 0 = 6");
        run("21 the least and the greatest SLOT, and the first beyond each", "depth 0 = 1", "depth 5 = 1", "depth no6 ! slot");
        run("22 the least and the greatest SHARED SIZE", "shared 0 = 1", "set 0 " + chain(16, "a"), "shared 0 = 16",
                "set 0 " + ELEVEN, "shared 0 = 6", "set 0 S(S(S(S(S(a,b,c),d,e),f,g),h,K),L,L)", "shared 0 = 15");
        run("22 as great as the SIZE, and one less", "set 0 " + EIGHT, "shared 0 = 15", "size 0 = 15",
                "set 0 P(P(P(a,b),P(c,d)),P(P(e,f),P(g,g)))", "shared 0 = 14");
        run("22 a TERM that begins as another one does is unlike", "set 0 P(P(a,b),P(a,c))", "shared 0 = 6", "set 0 P(a,P(a,a))",
                "shared 0 = 3");
        run("22 the least and the greatest SLOT, and the first beyond each", "shared 0 = 1", "shared 5 = 1",
                "shared no6 ! slot");
    }

    private static void p23to24() {
        run("23 the least and the greatest NAME and HEAD", "set 0 T(a,h,K)", "letter 0 0 = 17", "letter 0 1 = 0",
                "letter 0 2 = 7", "letter 0 3 = 10");
        run("23 the PLACE that there just is and just is not", "set 0 P(a,b)", "letter 0 2 = 1", "letter 0 3 = -9",
                "letter 0 0 = 14", "letter 0 -1 = -9");
        run("23 the greatest PLACE of all and the first above", "set 0 " + chain(16, "h"), "letter 0 15 = 7",
                "letter 0 16 = -9", "letter 0 17 = -9");
        run("23 the one PLACE of the least SIZE, also where more stood", "letter 0 0 = 0", "letter 0 1 = -9",
                "set 1 " + ELEVEN, "name 1 7 = 16", "letter 1 0 = 7", "letter 1 1 = -9", "letter 1 15 = -9");
        run("23 the ends of int", "letter 0 " + Integer.MAX_VALUE + " = -9", "letter 0 " + Integer.MIN_VALUE + " = -9");
        run("23 no such SLOT goes ahead of no such PLACE", "letter no6 -1 ! slot", "letter no6 16 ! slot");
        run("24 the PLACE that there just is and just is not", "set 0 P(a,M(b))", "sizeAt 0 0 = 4", "sizeAt 0 -1 = -9",
                "sizeAt 0 3 = 1", "sizeAt 0 4 = -9");
        run("24 the greatest SIZE and PLACE of all and the first above", "set 0 " + chain(16, "h"), "sizeAt 0 0 = 16",
                "sizeAt 0 1 = 15", "sizeAt 0 15 = 1", "sizeAt 0 16 = -9", "sizeAt 0 17 = -9");
        run("24 the one PLACE of the least SIZE, also where more stood", "sizeAt 0 0 = 1", "sizeAt 0 1 = -9",
                "set 1 " + ELEVEN, "name 1 7 = 16", "sizeAt 1 0 = 1", "sizeAt 1 1 = -9", "sizeAt 1 15 = -9");
        run("24 the ends of int", "sizeAt 0 " + Integer.MAX_VALUE + " = -9", "sizeAt 0 " + Integer.MIN_VALUE + " = -9");
        run("24 no such SLOT goes ahead of no such PLACE", "sizeAt no6 -1 ! slot", "sizeAt no6 16 ! slot");
    }

    private static void p25to26() {
        run("25 no PLACE and the most PLACES", "count 0 1 = 0", "set 0 " + ELEVEN, "count 0 0 = 11", "count 0 1 = 0",
                "set 0 K", "count 0 0 = 0");
        run("25 the least and the greatest NAME, and the first beyond each", "set 0 S(a,h,h)", "count 0 0 = 1",
                "count 0 7 = 2", "count 0 -1 ! word", "count 0 8 ! word");
        run("25 a HEAD's number is no NAME", "set 0 P(K,L)", "count 0 0 = 0", "count 0 4 = 0", "count 0 10 ! word",
                "count 0 14 ! word");
        run("25 no such SLOT goes ahead of no such NAME", "count no6 no8 ! slot");
        run("26 no NAME, the least, the greatest and all 8", "set 0 " + chain(16, "K"), "names 0 = 0", "name 0 0 = 16",
                "names 0 = 1", "name 0 7 = 1", "names 0 = 128", "set 0 " + EIGHT, "names 0 = 255");
        run("26 each NAME once, at however many PLACES", "set 0 S(S(S(S(S(h,h,h),h,h),h,h),h,h),h,a)", "names 0 = 129");
        run("26 the least and the greatest SLOT, and the first beyond each", "names 0 = 1", "names 5 = 32", "names no6 ! slot");
    }

    private static void p27to28() {
        run("27 the least and the greatest PLACE", "set 0 " + chain(16, "h"), "copy 0 1 = 16", "find 0 1 = 0", "name 2 7 = 1",
                "find 0 2 = 15", "name 2 6 = 1", "find 0 2 = -1");
        run("27 the first of several", "set 0 S(a,P(b,c),P(b,c))", "set 1 P(b,c)", "find 0 1 = 2", "name 1 2 = 3",
                "find 0 1 = 4");
        run("27 the same SLOT", "set 0 P(a,a)", "find 0 0 = 0", "find 3 3 = 0");
        run("27 what begins as the sought one does", "set 0 P(M(a),M(b))", "set 1 M(b)", "find 0 1 = 3", "set 1 M(c)",
                "find 0 1 = -1");
        run("27 a greater one than the whole", "set 0 M(a)", "set 1 M(M(a))", "find 0 1 = -1", "find 1 0 = 1");
        run("27 what ends beyond the whole", "set 0 P(a,M(b))", "set 1 P(b,a)", "find 0 1 = -1");
        run("27 the first beyond each SLOT", "find 6 0 ! slot", "find -1 0 ! slot", "find 0 6 ! slot", "find 0 -1 ! slot",
                "find 6 6 ! slot");
        run("28 the least and the greatest PLACE", "set 0 " + chain(16, "a"), "set 1 " + chain(16, "b"), "differ 0 1 = 15",
                "differ 1 0 = 15", "differ 0 2 = 0", "differ 2 0 = 0");
        run("28 the same TERM and the same SLOT", "set 0 " + ELEVEN, "copy 0 1 = 16", "differ 0 1 = -1", "differ 0 0 = -1",
                "differ 3 3 = -1");
        run("28 a PLACE that only one of both has comes behind unlike letters", "set 0 " + chain(15, "a"),
                "set 1 " + chain(16, "a"), "differ 0 1 = 14", "differ 1 0 = 14");
        run("28 a NAME and a HEAD with the same number", "set 0 K", "set 1 a", "differ 0 1 = 0", "is 0 1 0 = false");
        run("28 the first beyond each SLOT", "differ 6 0 ! slot", "differ -1 0 ! slot", "differ 0 6 ! slot",
                "differ 0 -1 ! slot", "differ 6 6 ! slot");
    }

    private static void p29to30() {
        run("29 the least and the greatest how, and the first beyond each", "is 0 0 0 = true", "is 0 0 2 = true",
                "is 0 0 -1 ! word", "is 0 0 3 ! word");
        run("29 the same SLOT", "set 0 " + EIGHT, "is 0 0 0 = true", "is 0 0 1 = true", "is 0 0 2 = true");
        run("29 the same but for the last PLACE", "set 0 " + chain(16, "a"), "set 1 " + chain(16, "b"), "is 0 1 0 = false",
                "is 0 1 1 = true", "is 0 1 2 = true", "set 1 " + chain(16, "K"), "is 0 1 1 = false", "is 1 0 1 = false",
                "is 0 1 2 = false", "is 1 0 2 = true");
        run("29 up to all 8 NAMES", "set 0 " + EIGHT, "set 1 P(P(P(b,a),P(d,c)),P(P(f,e),P(h,g)))", "is 0 1 0 = false",
                "is 0 1 1 = true", "set 1 P(P(P(b,a),P(d,c)),P(P(f,e),P(h,h)))", "is 0 1 1 = false", "is 1 0 1 = false",
                "is 1 0 2 = true", "is 0 1 2 = false");
        run("29 unlike NAMES become unlike NAMES, either way", "set 0 P(a,b)", "set 1 P(c,c)", "is 0 1 1 = false",
                "is 1 0 1 = false", "is 1 0 2 = true", "is 0 1 2 = false");
        run("29 no NAMES in either", "set 0 P(K,L)", "copy 0 1 = 3", "is 0 1 1 = true", "is 0 1 2 = true", "set 1 P(L,K)",
                "is 0 1 1 = false", "is 0 1 2 = false");
        run("29 all come from a NAME, and that from none but NAMES", "set 0 " + ELEVEN, "is 0 1 2 = true", "is 1 0 2 = false",
                "is 2 1 2 = true");
        run("29 no such SLOT goes ahead of no such how", "is no6 0 no3 ! slot");
        run("29 no such other SLOT goes ahead of no such how", "is 0 no6 no3 ! slot");
        for (int how = 0; how <= 1; how++) {
            String end = " " + how + " = ";
            run("30 whatever SIZE it needs", "set 0 S(a,b,S(c,d,e))", "set 1 S(P(b,b),P(c,c),S(P(d,d),P(e,e),f))",
                    "can 0 1" + end + "true", "set 0 P(a,b)", "set 1 P(P(b,b)," + chain(8, "c") + ")",
                    "can 0 1" + end + "true", "house 1 = 0", "set 1 P(P(b,b)," + chain(8, "a") + ")",
                    "can 0 1" + end + "false");
            run("30 the same SLOT, the least and the greatest SIZE", "can 0 0" + end + "true", "set 0 " + chain(16, "a"),
                    "can 0 0" + end + "true", "set 1 " + chain(16, "b"), "can 0 1" + end + "true",
                    "set 1 " + chain(15, "a"), "can 0 1" + end + "false", "set 1 " + chain(15, "b"), "can 0 1" + end + "true");
            run("30 a CLASH at the last PLACE alone", "set 0 " + chain(16, "K"), "set 1 " + chain(16, "L"),
                    "can 0 1" + end + "false", "can 1 0" + end + "false");
        }
        run("30 the least and the greatest how, and the first beyond each", "can 0 1 0 = true", "can 0 1 1 = true",
                "can 0 1 -1 ! word", "can 0 1 2 ! word");
        run("30 no such SLOT goes ahead of no such how", "can no6 0 no2 ! slot");
        run("30 no such other SLOT goes ahead of no such how", "can 0 no6 no2 ! slot");
    }

    private static void p31to32() {
        run("31 and 32 the fewest STEPS, of each end", "steps 0 0 = 1", "why 0 0 = 0", "steps 0 1 = 1", "why 0 1 = 0",
                "set 0 K", "set 1 L", "steps 0 1 = 1", "why 0 1 = 1", "set 0 a", "set 1 M(a)", "steps 0 1 = 1", "why 0 1 = 2");
        run("31 and 32 the end at the last PLACE, none left", "set 0 " + chain(16, "K"), "steps 0 0 = 16", "why 0 0 = 0",
                "set 1 " + chain(16, "b"), "steps 0 1 = 16", "why 0 1 = 0", "set 1 " + ELEVEN, "steps 1 1 = 16");
        run("31 and 32 the end at the last PLACE, a CLASH", "set 0 " + chain(16, "K"), "set 1 " + chain(16, "L"),
                "steps 0 1 = 16", "why 0 1 = 1", "steps 1 0 = 16", "why 1 0 = 1");
        run("31 and 32 the end at the last PLACE, WITHIN", "set 0 " + chain(15, "a"), "set 1 " + chain(16, "a"),
                "steps 0 1 = 15", "why 0 1 = 2", "steps 1 0 = 15", "why 1 0 = 2");
        run("31 and 32 the first of several ends", "set 0 S(K,a,b)", "set 1 S(L,M(a),M(b))", "steps 0 1 = 2", "why 0 1 = 1",
                "set 0 S(a,K,b)", "set 1 S(M(a),L,M(b))", "steps 0 1 = 2", "why 0 1 = 2");
        run("31 the PARTS come ahead of all pairs, in their sequence", "set 0 P(P(K,a),K)", "set 1 P(P(L,M(a)),L)",
                "steps 0 1 = 3", "why 0 1 = 1", "set 0 P(P(a,K),K)", "set 1 P(P(M(a),L),L)", "steps 0 1 = 3", "why 0 1 = 2");
        // S and S; a, b, d, e come to stand for TERMS; a and d go on: P, P, c and f, twice c; P, twice c.
        run("31 more STEPS than PLACES that both have", "set 0 S(S(a,b,d),e,a)", "set 1 S(S(P(b,b),P(c,c),P(e,e)),P(f,f),d)",
                "steps 0 1 = 13", "why 0 1 = 0");
        run("32 WITHIN, looked for through all that NAMES stand for", "set 0 S(a,b,c)", "set 1 S(M(b),M(c),M(a))",
                "steps 0 1 = 4", "why 0 1 = 2", "set 1 S(M(b),M(c),M(c))", "steps 0 1 = 4", "why 0 1 = 2",
                "set 1 S(M(b),M(c),d)", "why 0 1 = 0");
        // 4 HEADS, 7 NAMES for the lesser ones, a for K, and the greatest one becomes K through all of them.
        run("32 a NAME becomes what all 8 stand for", "set 0 S(S(S(S(h,g,f),e,d),c,b),a,h)",
                "set 1 S(S(S(S(g,f,e),d,c),b,a),K,K)", "steps 0 1 = 13", "why 0 1 = 0",
                "set 1 S(S(S(S(g,f,e),d,c),b,a),K,L)", "steps 0 1 = 13", "why 0 1 = 1",
                "set 1 S(S(S(S(g,f,e),d,c),b,a),M(K),M(a))", "steps 0 1 = 14", "why 0 1 = 1",
                "set 1 S(S(S(S(g,f,e),d,c),b,a),M(M(K)),M(K))", "why 0 1 = 1");
        run("32 WITHIN, beside NAMES that stand for something else", "set 0 P(a,b)", "set 1 P(M(K),P(a,b))",
                "steps 0 1 = 3", "why 0 1 = 2", "why 1 0 = 2", "can 0 1 1 = false", "set 1 P(M(K),P(b,a))", "why 0 1 = 2",
                "set 0 P(b,a)", "why 0 1 = 2", "set 1 P(M(K),P(b,a))", "why 0 1 = 2", "set 1 P(M(K),P(b,b))", "why 0 1 = 0",
                "set 0 S(a,b,c)", "set 1 S(M(d),M(e),S(a,c,b))", "steps 0 1 = 4", "why 0 1 = 2",
                "set 1 S(M(d),M(e),S(a,d,b))", "steps 0 1 = 4", "why 0 1 = 0", "can 0 1 1 = true");
        run("32 the same NAME by what both stand for is not WITHIN", "set 0 S(a,b,a)", "set 1 S(b,c,c)", "steps 0 1 = 4",
                "why 0 1 = 0");
        run("32 of SIZES far above 16", "set 0 S(a,b,S(c,d,e))", "set 1 S(P(b,b),P(c,c),S(P(d,d),P(e,e),f))",
                "steps 0 1 = 7", "why 0 1 = 0", "set 1 S(P(b,b),P(c,c),S(P(d,d),P(e,e),a))", "steps 0 1 = 7",
                "why 0 1 = 2");
        run("31 the first beyond each SLOT", "steps 6 0 ! slot", "steps -1 0 ! slot", "steps 0 6 ! slot", "steps 0 -1 ! slot",
                "steps 6 6 ! slot", "steps 5 0 = 1");
        run("32 the first beyond each SLOT", "why 6 0 ! slot", "why -1 0 ! slot", "why 0 6 ! slot", "why 0 -1 ! slot",
                "why 6 6 ! slot", "why 5 0 = 0");
    }

    // ---- what is asked of ANSWERS

    private static void p33to35() {
        run("33 the least and the greatest NAME, and the first beyond each", "told 0 0 = a", "told 0 7 = h",
                "told 0 -1 ! word", "told 0 8 ! word");
        run("33 the least and the greatest ANSWER, and the first beyond each", "told 0 3 = d", "told 2 3 = d",
                "told -1 3 ! slot", "told 3 3 ! slot");
        run("33 the greatest SIZE", "learn 2 h=" + ELEVEN, "told 2 7 = " + ELEVEN, "learn 2 a=" + chain(16, "K"),
                "told 2 0 = " + chain(16, "K"));
        run("33 no such ANSWER goes ahead of no such NAME", "told no3 no8 ! slot");
        run("34 none, the least, the greatest and all 8", "moved 0 = 0", "tell 0 0 1 = 1", "moved 0 = 1", "tell 1 7 1 = 1",
                "moved 1 = 128", "set 4 K", "tell 2 0 4 = 1", "tell 2 1 4 = 1", "tell 2 2 4 = 1", "tell 2 3 4 = 1",
                "tell 2 4 4 = 1", "tell 2 5 4 = 1", "tell 2 6 4 = 1", "moved 2 = 127", "tell 2 7 4 = 1", "moved 2 = 255");
        run("34 a NAME told of itself is not MOVED, one within its TERM is", "tell 0 0 0 = 0", "moved 0 = 0", "set 0 M(a)",
                "tell 0 0 0 = 1", "moved 0 = 1", "tell 0 0 1 = 1", "moved 0 = 1", "name 1 0 = 1", "tell 0 0 1 = 1",
                "moved 0 = 0");
        run("34 the least and the greatest ANSWER, and the first beyond each", "moved 0 = 0", "moved 2 = 0", "moved no3 ! slot");
        run("35 the same SLOT", "learn 0 a=" + ELEVEN, "set 0 " + ELEVEN, "makes 0 0 0 = true", "makes 1 0 0 = true");
        // Ten times 16 and one time 16 or K, with 5 HEADS.
        run("35 whatever SIZE comes of it, unlike at the last PLACE alone", "learn 0 a=" + chain(16, "c"),
                "learn 0 b=" + chain(16, "c"), "learn 1 a=" + chain(16, "c"), "learn 1 b=" + chain(16, "d"), "set 0 " + ELEVEN,
                "set 1 S(S(S(S(S(a,a,a),a,a),a,a),a,a),a,b)", "makes 0 0 1 = true", "makes 1 0 1 = false",
                "makes 1 1 0 = false", "makes 2 0 1 = false");
        run("35 one is the beginning of the other one", "learn 0 b=M(a)", "set 0 " + chain(16, "a"), "set 1 " + chain(16, "b"),
                "makes 0 0 1 = false", "makes 0 1 0 = false", "set 0 " + chain(15, "b"), "set 1 " + chain(16, "a"),
                "makes 0 0 1 = true");
        run("35 at once, not one by one", "learn 0 a=b", "learn 0 b=a", "makes 0 0 1 = false", "learn 0 b=b",
                "makes 0 0 1 = true");
        run("35 the first beyond each", "makes 3 0 0 ! slot", "makes -1 0 0 ! slot", "makes 0 6 0 ! slot", "makes 0 -1 0 ! slot",
                "makes 0 0 6 ! slot", "makes 0 0 -1 ! slot", "makes 3 6 6 ! slot", "makes 2 5 5 = true");
    }

    private static void p36to37() {
        run("36 the least and the greatest how, and the first beyond each", "isSo 0 0 = true", "isSo 0 1 = true",
                "isSo 0 -1 ! word", "isSo 0 2 ! word");
        run("36 twice: SIZE of just 16, and one that would be above", "learn 0 a=" + chain(16, "b"), "isSo 0 0 = true",
                "learn 0 b=M(c)", "isSo 0 0 = false", "house 1 = 0", "learn 0 b=c", "isSo 0 0 = false",
                "learn 0 a=" + chain(16, "c"), "isSo 0 0 = true");
        run("36 twice: the NAME stands in its own TERM", "learn 0 h=M(h)", "isSo 0 0 = false", "learn 1 h=" + chain(16, "h"),
                "isSo 1 0 = false");
        run("36 twice: the greatest NAME alone", "learn 0 h=g", "isSo 0 0 = true", "learn 0 g=h", "isSo 0 0 = false");
        run("36 NAMES: all 8 go round", "tell 0 0 1 = 1", "tell 0 1 2 = 1", "tell 0 2 3 = 1", "tell 0 3 4 = 1", "tell 0 4 5 = 1",
                "name 0 6 = 1", "tell 0 5 0 = 1", "name 0 7 = 1", "tell 0 6 0 = 1", "isSo 0 1 = false", "name 0 0 = 1",
                "tell 0 7 0 = 1", "moved 0 = 255", "isSo 0 1 = true", "isSo 0 0 = false");
        run("36 NAMES: two unlike ones become the same", "tell 0 7 0 = 1", "isSo 0 1 = false", "isSo 0 0 = true");
        run("36 NAMES: a HEAD without PARTS is none", "learn 0 h=K", "isSo 0 1 = false", "learn 0 h=M(h)", "isSo 0 1 = false",
                "learn 0 h=h", "isSo 0 1 = true");
        run("36 no such ANSWER goes ahead of no such how", "isSo no3 no2 ! slot");
        run("37 the least and the greatest NAME, and none", "unlike 0 1 = -1", "learn 0 h=M(h)", "unlike 0 1 = 7",
                "unlike 1 0 = 7", "learn 1 a=K", "unlike 0 1 = 0", "unlike 1 0 = 0");
        run("37 the same ANSWER", "learn 0 h=M(h)", "unlike 0 0 = -1", "unlike 2 2 = -1");
        run("37 unlike at the last PLACE alone", "learn 0 d=" + chain(16, "a"), "learn 1 d=" + chain(16, "b"), "unlike 0 1 = 3",
                "learn 1 d=" + chain(16, "a"), "unlike 0 1 = -1");
        run("37 the first beyond each", "unlike 3 0 ! slot", "unlike -1 0 ! slot", "unlike 0 3 ! slot", "unlike 0 -1 ! slot",
                "unlike 3 3 ! slot");
    }

    private static void p38weight() {
        run("38 none MOVED: NAMES told of themselves do not count", "weight 0 0 = 0", "weight 0 1 = 0", "tell 0 0 0 = 0",
                "weight 0 0 = 0");
        run("38 the least that there is", "tell 0 7 0 = 1", "weight 0 0 = 1", "weight 0 1 = 1", "tell 0 6 0 = 1",
                "weight 0 0 = 2", "weight 0 1 = 1");
        run("38 like TERMS count once, also in unlike ones", "learn 0 a=P(M(b),c)", "learn 0 h=Q(M(b),M(b))", "weight 0 0 = 9",
                "weight 0 1 = 5");
        run("38 the TERM that is told counts where it stands in another one", "learn 0 a=M(b)", "learn 0 c=M(M(b))",
                "weight 0 0 = 5", "weight 0 1 = 3");
        List<String> all = new ArrayList<>();
        for (char n = 'a'; n <= 'h'; n++) {
            all.add("learn 2 " + n + "=" + chain(16, String.valueOf((char) ('a' + (n - 'a' + 1) % 8))));
        }
        all.add("weight 2 0 = 128");
        all.add("weight 2 1 = 128");
        run("38 the greatest, all unlike", all.toArray(new String[0]));
        run("38 the least and the greatest ANSWER, and the first beyond each", "weight 0 0 = 0", "weight 2 1 = 0",
                "weight no3 0 ! slot", "weight no3 1 ! slot");
    }

    // ---- the whole

    private static void p39to40() {
        run("39 the least and the greatest what, and the first beyond each", "house 0 = 0", "house 4 = 0", "house -1 ! word",
                "house 5 ! word", "house no5 ! word");
        run("39 the least and the greatest SIZES together", "house 3 = 6", "set 0 " + chain(16, "a"), "copy 0 1 = 16",
                "copy 0 2 = 16", "copy 0 3 = 16", "copy 0 4 = 16", "copy 0 5 = 16", "house 3 = 96");
        run("39 no NAME and all NAMES of all ANSWERS", withAllMoved("house 4 = 8", "take 0 1 = 8", "take 0 2 = 8",
                "house 4 = 24", "forget 1 = 8", "house 4 = 16"));
        run("39 a NAME counts as often as ANSWERS MOVE it", "tell 0 0 1 = 1", "tell 1 0 2 = 1", "tell 2 0 3 = 1", "house 4 = 3",
                "tell 1 0 0 = 1", "house 4 = 2");
        run("39 what is asked is not counted", "house 0 = 0", "house 0 = 0", "text 0 = a", "isSound = true", "house 0 = 0");
        Branchmatch x = new Branchmatch();
        for (int k = 1; k <= 511; k++) {
            CHECK.due("40 each knock counts", k, x.knock());
        }
        CHECK.due("39 the greatest number of knocks", 511, x.house(2));
        Branchmatch y = new Branchmatch();
        for (int k = 1; k <= 510; k++) {
            CHECK.due("39 each is REFUSED", -9, y.part(0, 1, 0));
        }
        CHECK.due("39 the greatest number of REFUSED", 510, y.house(1));
        CHECK.due("39 none of them is done", 0, y.house(0));
        Branchmatch z = new Branchmatch();
        for (int k = 1; k <= 510; k++) {
            z.name(0, 0);
        }
        CHECK.due("39 the greatest number of acts", 510, z.house(0));
        CHECK.due("39 none of them is REFUSED", 0, z.house(1));
        run("40 the first knock and the next one", "knock = 1", "knock = 2", "house 2 = 2");
    }

    private static void p41isSound() {
        run("41 the least and the greatest SIZES", "isSound = true", "set 0 " + ELEVEN, "isSound = true", "copy 0 1 = 16",
                "isSound = true", "set 0 " + chain(16, "a"), "isSound = true", "copy 0 1 = 16", "isSound = true");
        run("41 alike() tells just 16, or would be REFUSED", "set 0 P(a,b)", "set 1 P(S(b,b,b)," + chain(5, "c") + ")",
                "isSound = true", "set 1 P(P(b,b)," + chain(8, "c") + ")", "isSound = true");
        run("41 what they have in COMMON needs just 8 NAMES, or one more", "set 0 S(S(S(S(a,b,c),d,e),f,g),h,K)",
                "set 1 S(S(S(S(b,c,d),e,f),g,h),a,K)", "isSound = true", "set 1 S(S(S(S(b,c,d),e,f),g,h),a,L)",
                "isSound = true");
        run("41 a CLASH and WITHIN", "set 0 P(a,K)", "set 1 P(M(b),L)", "isSound = true", "set 1 P(M(a),K)",
                "isSound = true");
        run("41 all 8 NAMES", "set 0 P(P(P(h,g),P(f,e)),P(P(d,c),P(b,a)))", "set 1 " + EIGHT, "isSound = true");
        run("41 it is asked, not done", "set 0 P(a,b)", "set 1 P(b,c)", "learn 0 a=K", "learn 1 b=K", "isSound = true",
                "text 0 = P(a,b)", "text 1 = P(b,c)", "told 0 0 = K", "told 1 1 = K", "moved 2 = 0");
    }

    /** Not wrapped around, by what is asked of the object. */
    private static BigInteger unwrapped(Branchmatch x) {
        List<Integer> all = new ArrayList<>();
        for (int k = 0; k < 6; k++) {
            all.addAll(List.of(x.size(k), x.depth(k), x.shared(k), x.names(k)));
            for (int i = 0; i < x.size(k); i++) {
                all.add(x.letter(k, i));
            }
        }
        for (int k = 0; k < 3; k++) {
            all.add(x.moved(k));
            for (int n = 0; n < 8; n++) {
                if ((x.moved(k) >> n & 1) == 1) {
                    String letters = x.told(k, n).replaceAll("[(),]", "");
                    all.add(n);
                    all.add(letters.length());
                    letters.chars().forEach(sign -> all.add("abcdefgh  KLMNPQST".indexOf(sign)));
                }
            }
        }
        all.addAll(List.of(x.steps(0, 1), x.why(0, 1)));
        for (int what = 0; what < 5; what++) {
            all.add(x.house(what));
        }
        all.add(x.isSound() ? 1 : 0);
        BigInteger d = BigInteger.valueOf(8024);
        for (int v : all) {
            d = d.multiply(BigInteger.valueOf(31)).add(BigInteger.valueOf(v));
        }
        return d;
    }

    private static void p42digest() {
        boolean isBelow = false;
        boolean isAbove = false;
        for (int k = 0; k < 40; k++) {
            Branchmatch x = new Branchmatch();
            x.head(0, 4, 1, 2, 0);
            x.head(1, k % 8, 0, 3, 4);
            x.tell(k % 3, k % 8, 0);
            x.tell(k % 3, 7, 1);
            x.part(0, k % 4, 2);
            BigInteger due = unwrapped(x);
            CHECK.so("42 the number needs more than 64 bits", due.bitLength() > 200);
            CHECK.due("42 wraps around as a 64-bit integer", due.longValue(), x.digest());
            isBelow = isBelow || x.digest() < 0;
            isAbove = isAbove || x.digest() > 0;
        }
        CHECK.so("42 wraps around below 0 and above", isBelow && isAbove);
        Branchmatch large = new Branchmatch();
        Check.set(large, 0, chain(16, "a"));
        for (int k = 1; k < 6; k++) {
            large.copy(0, k);
        }
        for (int k = 0; k < 8; k++) {
            large.tell(0, k, 0);
        }
        large.take(0, 1);
        large.take(0, 2);
        CHECK.due("42 the longest row of numbers", unwrapped(large).longValue(), large.digest());
        run("42 it is asked, not done: the same once more", "house 0 = 0", "letter 0 9 = -9", "house 1 = 0", "isSound = true");
    }

    public static void main(String[] args) {
        p1new();
        calls512();
        whatStays();
        whatCounts();
        p2name();
        p3head();
        p4p5();
        p6part();
        p7graft();
        p8put();
        p9p10();
        p11use();
        p12common();
        p13to15();
        p16behind();
        p17alike(0);
        p17alike(1);
        p17wrong();
        p18match();
        p19to22();
        p23to24();
        p25to26();
        p27to28();
        p29to30();
        p31to32();
        p33to35();
        p36to37();
        p38weight();
        p39to40();
        p41isSound();
        p42digest();
        CHECK.end("BoundaryTests");
    }
}
