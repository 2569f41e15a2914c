import com.sun.management.ThreadMXBean;
import java.lang.management.ManagementFactory;
import java.util.Random;

/** No call throws or fails to end, for any arguments in any state, also far behind the 512th; how much is made. */
public final class LimitsTest {
    private static final int NONE = CodeVerifier.NONE;
    private static final int VERIFIED = 1000;
    private static final int[] EDGES = {
        Integer.MIN_VALUE, Integer.MIN_VALUE + 1, -3, -2, -1, 0, 1, 2, 7, 8, 9, 11, 12, 13, 14, 15, 16, 17, 31, 32, 33,
        41, 42, 63, 64, 65, 66, 96, 97, 98, 99, 100, 199, 200, 201, Integer.MAX_VALUE - 1, Integer.MAX_VALUE};

    public static void main(String[] args) {
        edgesOnANewObject();
        edgesOnAFullObject();
        manyCalls();
        typesClimbAllClasses();
        verifyMakesNoObjects();
        Due.end();
    }

    private static void edgesOnANewObject() {
        for (int a : EDGES) {
            for (int b : EDGES) {
                CodeVerifier v = new CodeVerifier();
                Due.is("field", v.field(a, b), NONE);
                Due.is("parameter", v.parameter(a, b), NONE);
                Due.is("slot", v.slot(a, b), false);
                Due.is("op", v.op(a, b, a, b), NONE);
                Due.is("handler", v.handler(a, b, a, b, a), NONE);
                Due.is("verify", v.verify(a), NONE);
                Due.is("stands", v.stands(a, b, a, b), NONE);
                Due.is("looked", v.looked(), 0);
                Due.is("kind", v.kind(a), a == NONE ? 0 : NONE);
            }
        }
    }

    private static CodeVerifier full() {
        CodeVerifier v = new CodeVerifier();
        for (int c = 0; c < 32; c++) {
            v.kind(c - 1);
        }
        for (int f = 0; f < 15; f++) {
            v.field(31, 0);
        }
        for (int m = 0; m < 64; m++) {
            v.method(m % 2 == 0 ? 31 : NONE, m % 3 == 0 ? NONE : 0, 6, 6);
        }
        for (int s = 0; s < 16; s++) {
            v.slot(0, s);
        }
        for (int h = 0; h < 8; h++) {
            v.handler(0, 0, 200, 31, 199);
        }
        for (int i = 0; i < 200; i++) {
            v.op(0, i == 199 ? 39 : 26, 0, 0);
        }
        return v;
    }

    private static void edgesOnAFullObject() {
        CodeVerifier v = full();
        for (int a : EDGES) {
            for (int b : EDGES) {
                Due.is("kind is refused", v.kind(a) < 0, true);
                Due.is("field is refused", v.field(a, b) < 0, true);
                Due.is("method is refused", v.method(a, b, a, b) < 0, true);
                Due.is("parameter of 0 is refused", v.parameter(0, b), NONE);
                Due.is("op of 0 is refused", v.op(0, a, b, a) < 0, true);
                Due.is("handler of 0 is refused", v.handler(0, a, b, a, b) < 0, true);
                Due.is("verify", v.verify(a) >= NONE, true);
                Due.is("stands", v.stands(a, b, 2, a) >= NONE, true);
                Due.is("stands", v.stands(0, a, b, a) >= NONE, true);
            }
        }
        Due.is("the stack has six places", v.verify(0), 7);
    }

    private static void manyCalls() {
        Random random = new Random(1);
        CodeVerifier v = new CodeVerifier();
        v.kind(NONE);
        for (int call = 0; call < 300_000; call++) {
            int[] a = new int[5];
            for (int k = 0; k < 5; k++) {
                a[k] = random.nextInt(3) == 0 ? EDGES[random.nextInt(EDGES.length)] : random.nextInt(14) - 1;
            }
            anyCall(v, random.nextInt(40), a);
        }
        Due.is("came to an end", true, true);
    }

    private static void anyCall(CodeVerifier v, int which, int[] a) {
        switch (which) {
            case 0:
                v.kind(a[0]);
                break;
            case 1:
                v.field(a[0], a[1]);
                break;
            case 2:
                v.method(a[0], a[1], a[2], a[3]);
                break;
            case 3:
                v.parameter(a[0], a[1]);
                break;
            case 4:
                v.slot(a[0], a[1]);
                break;
            case 5:
                v.handler(a[0], a[1], a[2], a[3], a[4]);
                break;
            case 6:
                v.verify(a[0]);
                break;
            case 7:
                v.looked();
                break;
            case 8:
                v.stands(a[0], a[1], a[2], a[3]);
                break;
            default:
                v.op(a[0], a[1] + (a[2] & 31), a[3], a[4]);
                break;
        }
    }

    /** A loop in which one local after the other climbs from class 31 upward, a few classes at a time. */
    private static CodeVerifier climbing() {
        CodeVerifier v = new CodeVerifier();
        for (int c = 0; c < 32; c++) {
            v.kind(c - 1);
        }
        int m = v.method(NONE, NONE, 8, 4);
        for (int p = 0; p < 8; p++) {
            v.parameter(m, 32);
        }
        for (int k = 0; k < 31; k++) {
            int way = 5 * k;
            v.op(m, 40, 0, 0);
            v.op(m, 19, way + 5, 0);
            v.op(m, 26, 30 - k, 0);
            v.op(m, 3, k % 8, 0);
            v.op(m, 25, 0, 0);
        }
        for (int k = 0; k < 7; k++) {
            v.op(m, 2, k, 0);
            v.op(m, 3, k + 1, 0);
        }
        v.op(m, 25, 0, 0);
        return v;
    }

    private static void typesClimbAllClasses() {
        CodeVerifier v = climbing();
        int m = 0;
        Due.is("verify", v.verify(m), 0);
        Due.is("looked at often", v.looked() > 1000, true);
        for (int k = 0; k < 8; k++) {
            Due.is("local " + k, v.stands(m, 0, 1, k), k == 7 ? 7 : 7 - k);
        }
        System.out.println(v.looked() + " looked at");
    }

    /** All calls of one run share a room, so what each verify makes would count as often as it is called. */
    private static void verifyMakesNoObjects() {
        ThreadMXBean thread = (ThreadMXBean) ManagementFactory.getThreadMXBean();
        CodeVerifier v = climbing();
        v.verify(0);
        long before = thread.getCurrentThreadAllocatedBytes();
        for (int time = 0; time < VERIFIED; time++) {
            v.verify(0);
        }
        long made = thread.getCurrentThreadAllocatedBytes() - before;
        // The smallest object has 16 bytes; what the asking itself makes is far below one for each call.
        Due.is("verify made no objects, but " + made + " bytes", made < 16L * VERIFIED, true);
    }
}
