import java.util.ArrayList;
import java.util.List;

/** Each promise by runs worked out by hand from the document: ordinary inputs, edges, wrong inputs. */
public final class PromiseTests {
    private static final Check CHECK = new Check();
    private static final String THIRTEEN = "S(T(a,a,a),T(a,a,a),T(a,a,a))";
    private static final String FIFTEEN = "P(P(P(a,b),P(c,d)),P(P(a,b),P(c,d)))";
    private static final String DEEPEST = "M(M(M(M(M(M(M(M(M(M(M(M(M(M(M(a)))))))))))))))";

    private static void run(String name, String... lines) {
        Script.run(CHECK, name, lines);
    }

    private static void p1new() {
        run("1 new", "text 0 = a", "text 1 = b", "text 2 = c", "text 3 = d", "text 4 = e", "text 5 = f",
                "moved 0 = 0", "moved 1 = 0", "moved 2 = 0", "told 0 0 = a", "told 1 4 = e", "told 2 7 = h",
                "house 0 = 0", "house 1 = 0", "house 2 = 0", "house 3 = 6", "house 4 = 0", "isSound = true");
        Branchmatch x = new Branchmatch();
        new Branchmatch().name(0, 5);
        CHECK.due("each object is its own", "a", x.text(0));
    }

    private static void p2name() {
        run("2 name", "set 0 P(a,M(b))", "name 0 7 = 4", "text 0 = h", "name 0 7 = 1", "name 5 0 = 1",
                "text 5 = a", "text 1 = b", "name 1 6 = 1", "text 1 = g",
                "name no6 8 ! slot", "name no6 0 ! slot", "name 1 no8 ! word");
    }

    private static void p3head() {
        run("3 head", "head 0 0 1 2 3 = 1", "text 0 = K", "head 1 1 1 2 3 = 1", "text 1 = L",
                "head 0 3 0 2 3 = 2", "text 0 = N(K)", "head 0 4 0 0 1 = 5", "text 0 = P(N(K),N(K))",
                "head 2 5 4 3 0 = 3", "text 2 = Q(e,d)", "head 2 7 2 0 5 = 10",
                "text 2 = T(Q(e,d),P(N(K),N(K)),f)", "head 3 2 0 1 1 = 6", "text 3 = M(P(N(K),N(K)))",
                "head 4 6 3 1 5 = 9", "text 4 = S(M(P(N(K),N(K))),L,f)", "text 0 = P(N(K),N(K))",
                "head no6 8 0 0 0 ! slot", "head 0 8 no6 0 0 ! slot", "head 0 0 0 no6 0 ! slot",
                "head 0 2 0 0 no6 ! slot", "head 0 no8 0 0 0 ! word");
        run("3 head, large", "set 0 " + THIRTEEN, "name 1 7 = 1", "set 3 N(h)", "set 4 " + FIFTEEN,
                "head 5 6 0 1 2 = 16", "text 5 = S(" + THIRTEEN + ",h,c)", "head 5 6 0 3 2 = -9",
                "head 5 4 0 3 2 = 16", "head 0 7 0 0 5 = -9", "head 4 3 4 4 4 = 16", "head 4 2 4 0 0 = -9",
                "head 4 2 4 4 4 = -9", "head 4 0 5 5 5 = 1", "head 4 2 1 5 5 = 2", "text 4 = M(h)",
                "head 0 8 5 5 5 ! word", "head 0 4 5 5 6 ! slot", "house 1 = 4");
    }

    private static void p4copy() {
        run("4 copy", "set 0 P(a,M(b))", "copy 0 1 = 4", "text 1 = P(a,M(b))", "text 0 = P(a,M(b))",
                "name 0 7 = 4", "text 1 = P(a,M(b))", "copy 1 1 = 4", "text 1 = P(a,M(b))",
                "set 2 " + DEEPEST, "copy 2 5 = 16", "text 5 = " + DEEPEST, "text 2 = " + DEEPEST,
                "copy 3 2 = 1", "text 2 = d", "text 5 = " + DEEPEST, "copy no6 0 ! slot", "copy 0 no6 ! slot");
    }

    private static void p5swap() {
        run("5 swap", "set 0 P(a,M(b))", "set 2 P(a,M(b))", "swap 0 1 = 1", "text 0 = b", "text 1 = P(a,M(b))",
                "swap 1 1 = 0", "text 1 = P(a,M(b))", "swap 1 2 = 0", "text 1 = P(a,M(b))", "name 1 3 = 4",
                "text 2 = P(a,M(b))", "swap 2 1 = 1", "text 1 = P(a,M(b))", "text 2 = d",
                "swap no6 0 ! slot", "swap 0 no6 ! slot");
    }

    private static void p6part() {
        run("6 part", "set 0 S(P(a,b),N(c),d)", "part 0 0 1 = 7", "text 1 = S(P(a,b),N(c),d)", "part 0 1 2 = 3",
                "text 2 = P(a,b)", "part 0 3 3 = 1", "text 3 = b", "part 0 4 4 = 2", "text 4 = N(c)",
                "part 0 6 5 = 1", "text 5 = d", "part 0 no7 5 = -9", "text 0 = S(P(a,b),N(c),d)",
                "part 0 1 0 = 3", "text 0 = P(a,b)", "part 0 0 0 = 3", "text 0 = P(a,b)",
                "part no6 99 0 ! slot", "part 0 -1 no6 ! slot");
    }

    private static void p7graft() {
        run("7 graft", "set 0 S(P(a,b),N(c),d)", "set 1 M(K)", "set 2 " + FIFTEEN, "set 3 T(a,b,c)",
                "graft 0 2 1 = 8", "text 0 = S(P(M(K),b),N(c),d)", "text 1 = M(K)",
                "graft 0 1 1 = 6", "text 0 = S(M(K),N(c),d)", "graft 0 5 1 = 7", "text 0 = S(M(K),N(c),M(K))",
                "graft 0 6 0 = 13", "text 0 = S(M(K),N(c),M(S(M(K),N(c),M(K))))", "graft 0 1 0 = -9",
                "graft 0 4 3 = 16", "text 0 = S(M(K),N(T(a,b,c)),M(S(M(K),N(c),M(K))))",
                "graft 0 no16 1 = -9", "graft 0 2 1 = -9", "graft 0 0 0 = 16", "graft 0 0 2 = 15",
                "text 0 = " + FIFTEEN, "text 2 = " + FIFTEEN, "graft no6 99 0 ! slot", "graft 0 99 no6 ! slot");
    }

    private static void p8put() {
        run("8 put", "set 0 S(P(a,b),N(a),d)", "set 1 Q(b,a)", "set 2 " + FIFTEEN, "name 3 0 = 1",
                "put 0 7 2 = 0", "text 0 = S(P(a,b),N(a),d)", "put 0 0 1 = 2",
                "text 0 = S(P(Q(b,a),b),N(Q(b,a)),d)", "text 1 = Q(b,a)", "put 0 0 3 = 2",
                "text 0 = S(P(Q(b,a),b),N(Q(b,a)),d)", "put 0 1 2 = -9", "put 1 0 1 = 1",
                "text 1 = Q(b,Q(b,a))", "put no6 8 0 ! slot", "put 0 8 no6 ! slot", "put 0 no8 0 ! word");
        run("8 put, large", "set 0 " + FIFTEEN, "head 1 2 0 0 0 = 16", "set 1 M(a)", "set 2 K",
                "put 0 0 1 = -9", "put 0 0 2 = 2", "text 0 = P(P(P(K,b),P(c,d)),P(P(K,b),P(c,d)))",
                "set 3 T(a,b,c)", "set 4 " + THIRTEEN, "put 3 0 4 = 1", "text 3 = T(" + THIRTEEN + ",b,c)",
                "put 3 1 1 = -9", "put 3 1 2 = 1", "set 4 d", "put 4 3 0 = 1", "size 4 = 15");
    }

    private static void p9shift() {
        run("9 shift", "set 0 P(g,M(h))", "shift 0 3 = 2", "text 0 = P(b,M(c))", "shift 0 0 = 2",
                "text 0 = P(b,M(c))", "shift 0 7 = 2", "text 0 = P(a,M(b))", "shift 0 7 = 2", "text 0 = P(h,M(a))",
                "set 1 P(c,c)", "shift 1 5 = 1", "text 1 = P(h,h)", "set 2 M(K)", "shift 2 4 = 0", "text 2 = M(K)",
                "shift no6 8 ! slot", "shift 0 no8 ! word");
    }

    private static void p10plain() {
        run("10 plain", "set 0 P(h,P(c,h))", "plain 0 = 2", "text 0 = P(a,P(b,a))", "plain 0 = 2",
                "text 0 = P(a,P(b,a))", "set 1 T(b,a,c)", "plain 1 = 3", "text 1 = T(a,b,c)", "set 2 N(L)",
                "plain 2 = 0", "text 2 = N(L)", "plain 4 = 1", "text 4 = a",
                "set 3 S(T(h,g,f),T(e,d,c),P(b,a))", "plain 3 = 8", "text 3 = S(T(a,b,c),T(d,e,f),P(g,h))",
                "plain no6 ! slot");
    }

    private static void p11use() {
        run("11 use", "learn 0 a=P(b,b)", "learn 0 b=K", "set 0 P(a,b)", "set 1 M(c)", "use 0 0 2 = 5",
                "text 2 = P(P(b,b),K)", "text 0 = P(a,b)", "use 0 1 3 = 2", "text 3 = M(c)", "use 1 0 4 = 3",
                "text 4 = P(a,b)", "use 0 0 0 = 5", "text 0 = P(P(b,b),K)",
                "use no3 0 0 ! slot", "use 0 no6 0 ! slot", "use 0 0 no6 ! slot");
        run("11 use, large", "learn 2 a=" + THIRTEEN, "set 0 S(a,b,c)", "use 2 0 1 = 16",
                "text 1 = S(" + THIRTEEN + ",b,c)", "set 0 S(a,M(b),c)", "use 2 0 1 = -9", "set 0 P(a,a)",
                "use 2 0 0 = -9", "set 0 S(b,b,c)", "use 2 0 0 = 4");
    }

    private static void p12common() {
        run("12 common", "set 0 P(a,b)", "set 1 P(b,a)", "common 0 1 2 = 3", "text 2 = P(a,b)",
                "set 0 P(a,a)", "set 1 P(b,b)", "common 0 1 2 = 3", "text 2 = P(a,a)",
                "set 0 S(d,e,d)", "common 0 0 2 = 4", "text 2 = S(a,b,a)", "common 3 3 2 = 1", "text 2 = a",
                "set 0 K", "set 1 K", "common 0 1 2 = 1", "text 2 = K", "set 1 L", "common 0 1 2 = 1",
                "text 2 = a", "set 0 M(c)", "set 1 N(c)", "common 0 1 1 = 1", "text 1 = a",
                "set 0 T(P(a,K),K,b)", "set 1 T(P(b,L),L,b)", "common 0 1 0 = 6", "text 0 = T(P(a,b),b,c)",
                "set 0 P(M(K),M(K))", "set 1 P(N(b),M(b))", "common 0 1 2 = 4", "text 2 = P(a,M(b))",
                "set 0 P(a,b)", "common 0 4 2 = 1", "text 2 = a",
                "common no6 0 0 ! slot", "common 0 no6 0 ! slot", "common 0 0 no6 ! slot");
        run("12 common, many", "set 0 S(T(a,b,c),T(d,e,f),T(g,h,K))", "set 1 S(T(h,h,h),T(h,h,h),T(h,h,a))",
                "common 0 1 2 = -9", "common 1 0 0 = -9", "set 0 S(T(a,b,c),T(d,e,f),T(g,h,a))",
                "set 1 S(T(h,h,h),T(h,h,h),T(h,h,h))", "common 0 1 2 = 13",
                "text 2 = S(T(a,b,c),T(d,e,f),T(g,h,a))", "common 1 0 1 = 13",
                "text 1 = S(T(a,b,c),T(d,e,f),T(g,h,a))");
    }

    private static void p13forget() {
        run("13 forget", "forget 0 = 0", "learn 0 a=K", "learn 0 h=P(a,b)", "learn 1 c=d", "forget 0 = 2",
                "moved 0 = 0", "told 0 0 = a", "told 0 7 = h", "told 1 2 = d", "forget 0 = 0", "forget 1 = 1",
                "forget no3 ! slot");
    }

    private static void p14tell() {
        run("14 tell", "set 0 P(a,b)", "tell 0 7 0 = 1", "told 0 7 = P(a,b)", "moved 0 = 128", "tell 0 7 0 = 0",
                "tell 0 1 1 = 0", "moved 0 = 128", "tell 0 7 1 = 1", "told 0 7 = b", "name 2 7 = 1",
                "tell 0 7 2 = 1", "moved 0 = 0", "moved 1 = 0", "tell 2 0 0 = 1", "name 0 3 = 3",
                "told 2 0 = P(a,b)", "tell no3 8 0 ! slot", "tell 0 8 no6 ! slot", "tell 0 no8 0 ! word");
    }

    private static void p15take() {
        run("15 take", "learn 0 a=K", "learn 0 h=P(a,b)", "learn 1 c=d", "take 0 1 = 2", "told 1 0 = K",
                "told 1 2 = c", "told 1 7 = P(a,b)", "take 0 0 = 2", "told 0 7 = P(a,b)", "forget 0 = 2",
                "told 1 7 = P(a,b)", "take 2 1 = 0", "moved 1 = 0", "take no3 0 ! slot", "take 0 no3 ! slot");
    }

    private static void p16behind() {
        run("16 behind", "learn 0 a=P(b,c)", "learn 1 b=K", "learn 1 c=a", "learn 1 a=L", "behind 0 1 2 = 3",
                "told 2 0 = P(K,a)", "told 2 1 = K", "told 2 2 = a", "told 0 0 = P(b,c)", "told 1 0 = L",
                "behind 1 0 2 = 3", "told 2 0 = L", "told 2 1 = K", "told 2 2 = P(b,c)",
                "behind 0 1 0 = 3", "told 0 0 = P(K,a)", "behind 0 1 1 = 3", "told 1 0 = P(K,L)", "told 1 2 = L",
                "behind no3 0 0 ! slot", "behind 0 no3 0 ! slot", "behind 0 0 no3 ! slot");
        run("16 behind, back", "learn 0 a=b", "learn 1 b=a", "behind 0 1 2 = 1", "told 2 0 = a", "told 2 1 = a",
                "learn 0 b=a", "behind 0 0 0 = 0", "moved 0 = 0");
        run("16 behind, large", "learn 0 d=S(a,b,c)", "learn 1 a=" + THIRTEEN, "behind 0 1 2 = 2",
                "told 2 3 = S(" + THIRTEEN + ",b,c)", "learn 1 b=M(b)", "behind 0 1 2 = -9",
                "behind 1 1 1 = -9", "behind 1 0 1 = 3", "told 1 3 = S(a,b,c)");
    }

    private static void p17alike() {
        for (int how = 0; how <= 1; how++) {
            String end = " " + how + " = ";
            run("17 alike", "learn 0 h=K", "alike 0 1 0" + end + "1", "told 0 1 = a", "moved 0 = 2",
                    "alike 1 0 1" + end + "1", "told 1 1 = a", "moved 1 = 2", "alike 3 3 0" + end + "0", "moved 0 = 0",
                    "set 0 P(P(h,c),c)", "set 1 P(P(c,e),h)", "alike 0 1 0" + end + "2", "told 0 4 = c",
                    "told 0 7 = c", "moved 0 = 144", "alike 1 0 1" + end + "2", "unlike 0 1 = -1",
                    "set 0 P(a,b)", "set 1 P(M(b),c)", "alike 0 1 2" + end + "2", "told 2 0 = M(b)",
                    "told 2 2 = b", "set 0 T(a,b,c)", "set 1 T(P(b,c),K,d)", "alike 0 1 2" + end + "3",
                    "told 2 0 = P(K,c)", "told 2 1 = K", "told 2 3 = c", "set 0 P(M(a),a)", "set 1 P(b,K)",
                    "alike 0 1 2" + end + "2", "told 2 1 = M(K)", "set 0 L", "set 1 L", "alike 0 1 2" + end + "0");
            run("17 alike, can not", "learn 0 h=K", "set 0 K", "set 1 L", "alike 0 1 0" + end + "-1", "set 0 M(a)",
                    "set 1 a", "alike 0 1 0" + end + "-1", "alike 1 0 0" + end + "-1", "set 0 P(a,b)",
                    "set 1 P(M(b),M(a))", "alike 0 1 0" + end + "-1", "set 0 P(a,a)", "set 1 P(K,L)",
                    "alike 0 1 0" + end + "-1", "set 0 M(a)", "set 1 N(a)", "alike 0 1 0" + end + "-1",
                    "set 0 T(a,b,a)", "set 1 T(b,a,M(b))", "alike 0 1 0" + end + "-1", "told 0 7 = K",
                    "set 0 Q(K,a)", "set 1 Q(a,L)", "alike 0 1 0" + end + "-1", "house 1 = 0");
            run("17 alike, large", "learn 0 h=K", "set 0 S(a,b,c)", "set 1 S(M(b),P(c,c),P(P(d,e),P(f,g)))",
                    "alike 0 1 1" + end + "3",
                    "told 1 0 = M(P(P(P(d,e),P(f,g)),P(P(d,e),P(f,g))))",
                    "set 1 S(P(b,K),P(c,c),P(P(d,e),P(f,g)))", "alike 0 1 0" + end + "-9", "told 0 7 = K",
                    "alike 1 0 0" + end + "-9", "can 0 1 0 = true", "can 0 1 1 = true", "isSound = true",
                    "set 0 S(a,b,P(c,K))", "set 1 S(P(b,b),P(c,c),P(Q(M(d),d),L))", "alike 0 1 0" + end + "-1");
        }
        run("17 alike, wrong", "alike no6 0 0 2 ! slot", "alike 0 no6 0 2 ! slot", "alike 0 0 no3 2 ! slot",
                "alike 0 1 0 no2 ! word");
    }

    private static void p18match() {
        run("18 match", "learn 0 h=K", "set 0 P(a,a)", "set 1 P(K,K)", "match 0 1 0 = 1", "told 0 0 = K",
                "moved 0 = 1", "match 1 0 0 = -1", "set 1 P(K,L)", "match 0 1 0 = -1", "told 0 0 = K",
                "set 0 P(a,b)", "set 1 P(b,a)", "match 0 1 0 = 2", "told 0 0 = b", "told 0 1 = a",
                "match 0 0 0 = 0", "moved 0 = 0", "set 1 M(c)", "match 2 1 1 = 1", "told 1 2 = M(c)",
                "match 1 2 1 = -1", "set 0 K", "set 1 L", "match 0 0 1 = 0", "moved 1 = 0", "match 0 1 1 = -1",
                "set 0 P(a,M(a))", "set 1 P(M(K),M(M(K)))", "match 0 1 2 = 1", "told 2 0 = M(K)",
                "set 1 P(M(K),M(M(L)))", "match 0 1 2 = -1", "set 0 P(a,b)", "set 1 P(a,c)", "match 0 1 2 = 1",
                "told 2 1 = c", "moved 2 = 2", "set 1 " + DEEPEST, "name 4 4 = 1", "match 4 1 0 = 1", "told 0 4 = " + DEEPEST,
                "match no6 0 0 ! slot", "match 0 no6 0 ! slot", "match 0 0 no3 ! slot");
        run("18 match, not by parts that come later", "set 0 S(a,b,a)", "set 1 S(P(c,d),e,P(d,c))",
                "match 0 1 0 = -1", "set 1 S(P(c,d),a,P(c,d))", "match 0 1 0 = 2", "told 0 0 = P(c,d)",
                "told 0 1 = a");
    }

    private static void p19text() {
        run("19 text", "text 0 = a", "set 0 S(K,L,M(N(h)))", "text 0 = S(K,L,M(N(h)))",
                "set 0 T(Q(a,b),P(c,d),e)", "text 0 = T(Q(a,b),P(c,d),e)", "set 0 " + DEEPEST, "text 0 = " + DEEPEST,
                "set 0 P(g,P(f,M(M(d))))", "text 0 = P(g,P(f,M(M(d))))", "text no6 ! slot");
    }

    private static void p20to22() {
        run("20 size", "size 3 = 1", "set 0 S(K,L,M(N(h)))", "size 0 = 6", "set 0 " + FIFTEEN, "size 0 = 15",
                "set 0 " + DEEPEST, "size 0 = 16", "size no6 ! slot");
        run("21 depth", "depth 3 = 1", "set 0 K", "depth 0 = 1", "set 0 P(a,M(b))", "depth 0 = 3",
                "set 0 P(M(b),a)", "depth 0 = 3", "set 0 S(a,T(b,c,P(d,e)),M(M(M(f))))", "depth 0 = 5",
                "set 0 S(M(M(M(f))),T(b,c,P(d,e)),a)", "depth 0 = 5", "set 0 " + DEEPEST, "depth 0 = 16",
                "set 0 " + FIFTEEN, "depth 0 = 4", "depth no6 ! slot");
        run("22 shared", "shared 3 = 1", "set 0 P(P(a,b),P(a,b))", "shared 0 = 4", "set 0 P(P(a,b),P(b,a))",
                "shared 0 = 5", "set 0 " + THIRTEEN, "shared 0 = 3", "set 0 " + DEEPEST, "shared 0 = 16",
                "set 0 " + FIFTEEN, "shared 0 = 8", "set 0 P(K,P(K,L))", "shared 0 = 4", "shared no6 ! slot");
    }

    private static void p23to24() {
        run("23 letter", "set 0 S(P(a,h),N(L),K)", "letter 0 0 = 16", "letter 0 1 = 14", "letter 0 2 = 0",
                "letter 0 3 = 7", "letter 0 4 = 13", "letter 0 5 = 11", "letter 0 6 = 10", "letter 0 no7 = -9",
                "set 1 T(Q(b,M(c)),d,e)", "letter 1 0 = 17", "letter 1 1 = 15", "letter 1 3 = 12",
                "letter no6 0 ! slot", "letter no6 99 ! slot", "house 1 = 0");
        run("24 sizeAt", "set 0 S(P(a,h),N(L),K)", "sizeAt 0 0 = 7", "sizeAt 0 1 = 3", "sizeAt 0 2 = 1",
                "sizeAt 0 4 = 2", "sizeAt 0 5 = 1", "sizeAt 0 6 = 1", "sizeAt 0 no7 = -9",
                "set 1 " + DEEPEST, "sizeAt 1 3 = 13", "sizeAt 1 15 = 1", "sizeAt 1 16 = -9",
                "sizeAt no6 0 ! slot", "sizeAt no6 -1 ! slot", "house 1 = 0");
    }

    private static void p25to26() {
        run("25 count", "set 0 " + THIRTEEN, "count 0 0 = 9", "count 0 1 = 0", "set 0 P(h,P(c,h))", "count 0 7 = 2",
                "count 0 2 = 1", "count 4 4 = 1", "count no6 8 ! slot", "count 0 no8 ! word");
        run("26 names", "names 0 = 1", "set 0 P(h,P(c,h))", "names 0 = 132", "set 0 M(K)", "names 0 = 0",
                "set 0 S(T(a,b,c),T(d,e,f),P(g,h))", "names 0 = 255", "names no6 ! slot");
    }

    private static void p27to28() {
        run("27 find", "set 0 S(P(a,b),N(c),P(a,b))", "set 1 P(a,b)", "find 0 1 = 1", "find 0 0 = 0", "find 1 0 = -1",
                "set 1 b", "find 0 1 = 3", "find 0 2 = 5", "find 0 3 = -1", "set 1 P(b,a)", "find 0 1 = -1",
                "set 1 N(c)", "find 0 1 = 4", "set 1 N(b)", "find 0 1 = -1", "find no6 0 ! slot",
                "find 0 no6 ! slot");
        run("28 differ", "set 0 P(a,b)", "set 1 P(a,c)", "differ 0 1 = 2", "differ 0 2 = 0", "differ 0 0 = -1",
                "set 1 P(a,b)", "differ 0 1 = -1", "set 0 M(a)", "set 1 M(M(a))", "differ 0 1 = 1", "differ 1 0 = 1",
                "set 0 S(P(a,b),N(c),K)", "set 1 S(P(a,b),N(c),M(K))", "differ 0 1 = 6", "set 1 S(P(a,b),N(c),L)",
                "differ 1 0 = 6", "differ no6 0 ! slot", "differ 0 no6 ! slot");
    }

    private static void p29is() {
        run("29 is", "set 0 P(a,b)", "set 1 P(a,b)", "is 0 1 0 = true", "is 0 1 1 = true", "is 0 1 2 = true",
                "set 1 P(c,a)", "is 0 1 0 = false", "is 0 1 1 = true", "is 0 1 2 = true", "is 1 0 2 = true",
                "set 1 P(a,a)", "is 0 1 0 = false", "is 0 1 1 = false", "is 1 0 1 = false", "is 1 0 2 = true",
                "is 0 1 2 = false", "set 1 P(K,M(a))", "is 1 0 2 = true", "is 0 1 2 = false", "is 0 1 1 = false",
                "is 0 2 2 = true", "is 2 0 2 = false", "is 2 3 0 = false", "is 2 3 1 = true", "set 0 K", "set 1 L",
                "is 0 1 0 = false", "is 0 1 1 = false", "is 0 1 2 = false", "is 0 0 1 = true",
                "set 0 M(K)", "set 1 M(a)", "is 0 1 1 = false", "is 1 0 1 = false",
                "is no6 0 3 ! slot", "is 0 no6 3 ! slot", "is 0 1 no3 ! word");
    }

    private static void p30to32() {
        for (int how = 0; how <= 1; how++) {
            String end = " " + how + " = ";
            run("30 can", "can 0 1" + end + "true", "can 0 0" + end + "true", "set 0 M(a)", "set 1 a",
                    "can 0 1" + end + "false", "can 1 0" + end + "false", "can 0 2" + end + "true",
                    "set 0 P(a,b)", "set 1 P(b,M(a))", "can 0 1" + end + "false", "set 1 P(b,M(c))",
                    "can 0 1" + end + "true", "set 1 Q(b,a)", "can 0 1" + end + "false",
                    "set 0 a", "set 1 P(K,a)", "can 0 1" + end + "false", "set 1 S(K,b,a)", "can 0 1" + end + "false",
                    "set 0 S(a,b,c)", "set 1 S(T(b,b,b),T(c,c,c),T(d,d,d))", "can 0 1" + end + "true",
                    "alike 0 1 0" + end + "-9");
        }
        run("30 can, wrong", "can no6 0 2 ! slot", "can 0 no6 2 ! slot", "can 0 1 no2 ! word");
        run("31 steps and 32 why", "steps 0 1 = 1", "why 0 1 = 0", "steps 0 0 = 1", "why 0 0 = 0",
                "set 0 P(a,b)", "set 1 P(b,a)", "steps 0 1 = 3", "why 0 1 = 0", "set 1 Q(a,b)", "steps 0 1 = 1",
                "why 0 1 = 1", "set 0 M(a)", "set 1 a", "steps 0 1 = 1", "why 0 1 = 2", "why 1 0 = 2",
                "set 0 P(a,b)", "set 1 P(M(b),M(a))", "steps 0 1 = 3", "why 0 1 = 2",
                "set 0 P(a,K)", "set 1 P(M(a),L)", "steps 0 1 = 2", "why 0 1 = 2",
                "set 0 P(K,a)", "set 1 P(L,M(a))", "steps 0 1 = 2", "why 0 1 = 1",
                "set 0 P(M(K),K)", "set 1 P(M(L),a)", "steps 0 1 = 3", "why 0 1 = 1",
                "set 0 P(M(K),a)", "set 1 P(M(K),L)", "steps 0 1 = 4", "why 0 1 = 0",
                "set 0 " + THIRTEEN, "steps 0 0 = 13", "why 0 0 = 0",
                "set 0 P(P(h,c),c)", "set 1 P(P(c,e),h)", "steps 0 1 = 5", "why 0 1 = 0",
                // a becomes P(b,b), b becomes M(c): the last pair goes on through P and twice M.
                "set 0 T(a,b,a)", "set 1 T(P(b,b),M(c),P(M(c),b))", "steps 0 1 = 8", "why 0 1 = 0",
                "set 1 T(P(b,b),M(c),P(M(c),M(a)))", "steps 0 1 = 8", "why 0 1 = 2",
                "set 1 T(P(b,b),M(c),P(M(c),N(a)))", "steps 0 1 = 7", "why 0 1 = 1",
                "steps no6 0 ! slot", "steps 0 no6 ! slot", "why no6 0 ! slot", "why 0 no6 ! slot");
        run("31 steps, twice as many", "set 0 S(a,P(b,c),K)", "set 1 S(P(b,b),P(P(c,c),P(d,d)),K)",
                "steps 0 1 = 6", "set 0 S(a,b,P(c,a))", "set 1 S(M(b),M(c),P(M(d),M(M(M(e)))))",
                // the heads S and P, three names, then M, M, M, and e for d
                "steps 0 1 = 9", "why 0 1 = 0");
    }

    private static void p33to34() {
        run("33 told", "told 0 0 = a", "told 2 7 = h", "learn 0 c=P(a,K)", "told 0 2 = P(a,K)", "told 1 2 = c",
                "told no3 8 ! slot", "told 0 no8 ! word");
        run("34 moved", "moved 0 = 0", "learn 0 a=b", "learn 0 h=M(h)", "moved 0 = 129", "learn 0 d=K", "moved 0 = 137",
                "learn 0 a=a", "moved 0 = 136", "moved 1 = 0", "moved no3 ! slot");
    }

    private static void p35makes() {
        run("35 makes", "makes 0 0 0 = true", "makes 0 0 1 = false", "learn 0 b=a", "makes 0 0 1 = true",
                "set 0 P(a,b)", "set 1 P(b,a)", "makes 0 0 1 = true", "makes 1 0 1 = false", "learn 1 a=b",
                "learn 1 b=a", "makes 1 0 1 = false", "set 1 P(b,K)", "makes 0 0 1 = false",
                "makes no3 0 0 ! slot", "makes 0 no6 0 ! slot", "makes 0 0 no6 ! slot");
        run("35 makes, large", "learn 0 a=" + THIRTEEN, "learn 0 b=" + THIRTEEN, "set 0 S(a,a,a)", "set 1 S(b,b,b)",
                "makes 0 0 1 = true", "set 0 S(a,a,c)", "set 1 S(a,a,d)", "makes 0 0 1 = false",
                "set 0 S(T(a,a,a),T(a,a,a),T(a,a,a))", "set 1 S(T(b,a,b),T(b,b,b),T(a,b,a))", "makes 0 0 1 = true",
                "set 1 S(T(b,a,b),T(b,b,b),T(a,b,K))", "makes 0 0 1 = false");
    }

    private static void p36isSo() {
        run("36 isSo, twice", "isSo 0 0 = true", "learn 0 a=b", "isSo 0 0 = true", "learn 0 b=K", "isSo 0 0 = false",
                "learn 0 a=K", "isSo 0 0 = true", "learn 1 a=M(a)", "isSo 1 0 = false", "learn 2 a=b", "learn 2 b=a",
                "isSo 2 0 = false", "learn 1 a=" + THIRTEEN, "isSo 1 0 = false", "learn 1 a=a",
                "learn 1 b=" + THIRTEEN, "isSo 1 0 = true", "isSo no3 2 ! slot", "isSo 0 no2 ! word");
        run("36 isSo, NAMES", "isSo 0 1 = true", "learn 0 a=b", "isSo 0 1 = false", "learn 0 b=a", "isSo 0 1 = true",
                "learn 0 c=M(c)", "isSo 0 1 = false", "learn 0 c=K", "isSo 0 1 = false", "learn 1 a=h",
                "learn 1 h=c", "learn 1 c=a", "isSo 1 1 = true", "isSo 1 0 = false");
    }

    private static void p37unlike() {
        run("37 unlike", "unlike 0 1 = -1", "learn 0 d=K", "unlike 0 1 = 3", "unlike 1 0 = 3", "learn 1 d=K",
                "unlike 0 1 = -1", "unlike 0 0 = -1", "learn 1 h=M(a)", "unlike 0 1 = 7", "learn 0 h=M(b)",
                "unlike 0 1 = 7", "learn 0 a=P(a,b)", "unlike 0 1 = 0", "unlike no3 0 ! slot", "unlike 0 no3 ! slot");
    }

    private static void p38weight() {
        run("38 weight", "weight 0 0 = 0", "weight 0 1 = 0", "learn 0 a=P(b,b)", "learn 0 c=M(b)", "weight 0 0 = 5",
                "weight 0 1 = 3", "learn 0 d=b", "weight 0 0 = 6", "weight 0 1 = 3", "learn 0 e=e", "weight 0 1 = 3",
                "learn 0 e=K", "weight 0 1 = 4", "weight 1 0 = 0", "weight no3 0 ! slot", "weight no3 1 ! slot");
        List<String> all = new ArrayList<>();
        for (char n = 'a'; n <= 'h'; n++) {
            all.add("learn 0 " + n + "=" + DEEPEST);
        }
        all.add("weight 0 0 = 128");
        all.add("weight 0 1 = 16");
        run("38 weight, the greatest", all.toArray(new String[0]));
    }

    private static void p39to40() {
        run("39 house", "house 0 = 0", "name 0 3 = 1", "house 0 = 1", "part 0 9 0 = -9", "house 0 = 1", "house 1 = 1",
                "name 0 3 = 1", "house 0 = 2", "set 0 P(a,b)", "house 3 = 8", "learn 1 a=K", "house 4 = 1",
                "learn 2 a=K", "learn 2 b=K", "house 4 = 3", "house 3 = 8", "match 0 3 0 = -1", "house 1 = 1",
                "knock = 1", "house 2 = 1", "house no5 ! word");
        run("40 knock", "knock = 1", "knock = 2", "house 0 = 0", "house 1 = 0", "house 2 = 2", "knock = 3",
                "house 2 = 3");
    }

    private static void p41isSound() {
        run("41 isSound", "isSound = true", "set 0 M(a)", "isSound = true", "set 0 P(a,b)", "set 1 P(b,M(a))",
                "isSound = true", "set 1 P(b,b)", "isSound = true", "set 0 S(T(a,b,c),T(d,e,f),T(g,h,K))",
                "set 1 S(T(h,h,h),T(h,h,h),T(h,h,a))", "isSound = true", "set 0 S(a,b,c)",
                "set 1 S(T(b,b,b),T(c,c,c),T(d,d,d))", "isSound = true", "set 0 " + DEEPEST, "isSound = true",
                "set 1 K", "set 0 L", "isSound = true");
    }

    private static long sum(long... all) {
        long d = 8024;
        for (long v : all) {
            d = d * 31 + v;
        }
        return d;
    }

    private static void p42digest() {
        Branchmatch x = new Branchmatch();
        CHECK.due("42 digest, new", sum(1, 1, 1, 1, 0, 1, 1, 1, 2, 1, 1, 1, 1, 4, 2, 1, 1, 1, 8, 3, 1, 1, 1, 16, 4,
                1, 1, 1, 32, 5, 0, 0, 0, 1, 0, 0, 0, 0, 6, 0, 1), x.digest());
        x.knock();
        x.head(0, 4, 1, 1, 0);
        x.part(2, 5, 2);
        x.tell(1, 3, 0);
        x.tell(1, 0, 1);
        x.head(1, 2, 0, 0, 0);
        CHECK.due("42 digest", sum(3, 2, 2, 2, 14, 1, 1, 4, 3, 3, 2, 12, 14, 1, 1, 1, 1, 1, 4, 2, 1, 1, 1, 8, 3,
                1, 1, 1, 16, 4, 1, 1, 1, 32, 5, 0, 9, 0, 1, 1, 3, 3, 14, 1, 1, 0, 1, 1, 4, 1, 1, 11, 2, 1),
                x.digest());
        CHECK.due("42 digest, again", x.digest(), x.digest());
        x.name(1, 0);
        CHECK.due("42 digest, made alike", sum(3, 2, 2, 2, 14, 1, 1, 1, 1, 1, 1, 0, 1, 1, 1, 4, 2, 1, 1, 1, 8, 3,
                1, 1, 1, 16, 4, 1, 1, 1, 32, 5, 0, 9, 0, 1, 1, 3, 3, 14, 1, 1, 0, 1, 0, 5, 1, 1, 8, 2, 1),
                x.digest());
        x.head(1, 4, 1, 5, 0);
        CHECK.due("42 digest, by steps", sum(3, 2, 2, 2, 14, 1, 1, 3, 2, 3, 33, 14, 0, 5, 1, 1, 1, 4, 2, 1, 1, 1, 8, 3,
                1, 1, 1, 16, 4, 1, 1, 1, 32, 5, 0, 9, 0, 1, 1, 3, 3, 14, 1, 1, 0, 3, 0, 6, 1, 1, 10, 2, 1),
                x.digest());
    }

    public static void main(String[] args) {
        p1new();
        p2name();
        p3head();
        p4copy();
        p5swap();
        p6part();
        p7graft();
        p8put();
        p9shift();
        p10plain();
        p11use();
        p12common();
        p13forget();
        p14tell();
        p15take();
        p16behind();
        p17alike();
        p18match();
        p19text();
        p20to22();
        p23to24();
        p25to26();
        p27to28();
        p29is();
        p30to32();
        p33to34();
        p35makes();
        p36isSo();
        p37unlike();
        p38weight();
        p39to40();
        p41isSound();
        p42digest();
        CHECK.end("PromiseTests");
    }
}
