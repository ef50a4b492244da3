import java.lang.management.ManagementFactory;

/** All calls of one run live in one room: only told texts may take some of it. */
public final class RoomTests {
    private static final int CALLS = 512;
    private static final Check CHECK = new Check();
    private static long sum;

    private static long taken() {
        com.sun.management.ThreadMXBean threads =
                (com.sun.management.ThreadMXBean) ManagementFactory.getThreadMXBean();
        return threads.getCurrentThreadAllocatedBytes();
    }

    private static void call(Branchmatch x, int kind) {
        switch (kind) {
            case 0: sum += x.digest(); break;
            case 1: sum += x.isSound() ? 1 : 0; break;
            case 2: sum += x.alike(0, 1, 0, 0) + x.steps(0, 1) + x.why(1, 0); break;
            case 3: sum += x.alike(0, 1, 0, 1) + (x.can(1, 0, 1) ? 1 : 0); break;
            case 4: sum += x.weight(0, true) + x.behind(0, 1, 2) + (x.makes(0, 0, 1) ? 1 : 0); break;
            case 5: sum += x.common(0, 1, 2) + x.match(2, 0, 1) + x.plain(2) + x.use(0, 2, 3); break;
            case 6: sum += x.swap(0, 0) + x.copy(0, 3) + x.part(0, 1, 3) + x.graft(3, 0, 0) + x.shift(3, 1); break;
            default: sum += x.text(0).length(); break;
        }
    }

    private static long perCall(int kind) {
        Branchmatch x = new Branchmatch();
        Check.set(x, 0, "S(a,b,M(M(M(M(M(M(M(M(M(M(M(c))))))))))))");
        Check.set(x, 1, "S(M(b),P(c,c),d)");
        call(x, kind);
        long before = taken();
        for (int k = 0; k < CALLS; k++) {
            call(x, kind);
        }
        return (taken() - before) / CALLS;
    }

    public static void main(String[] args) {
        perCall(0);
        for (int kind = 0; kind <= 7; kind++) {
            long bytes = perCall(kind);
            // What the machine itself takes meanwhile is far less than one small object a call.
            CHECK.so("calls of kind " + kind + " take room: " + bytes, bytes <= (kind == 7 ? 1000 : 8));
        }
        CHECK.end("RoomTests");
    }
}
