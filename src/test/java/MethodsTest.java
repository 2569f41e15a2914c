/** Promises 4 to 6: method, parameter, slot. */
public final class MethodsTest {
    private static final int NONE = CodeVerifier.NONE;
    private static final int FULL = CodeVerifier.FULL;

    public static void main(String[] args) {
        methodsNeedRoom();
        methodsNeedOwnerAndType();
        methodsAreAtMost64();
        parametersAreCounted();
        parametersNeedAToldType();
        parametersEndWithCodeOrSlot();
        slotsNeedAnOwnerWithNoneUnder();
        slotsKeepWhatIsCalled();
        slotsAreHandedDown();
        Due.end();
    }

    private static void methodsNeedRoom() {
        CodeVerifier v = new CodeVerifier();
        v.kind(NONE);
        Due.is("no locals, no stack", v.method(NONE, NONE, 0, 0), 0);
        Due.is("12 locals", v.method(NONE, NONE, 12, 0), 1);
        Due.is("12 places", v.method(NONE, NONE, 0, 12), 2);
        Due.is("6 and 6", v.method(0, NONE, 6, 6), 3);
        Due.is("7 and 6", v.method(NONE, NONE, 7, 6), NONE);
        Due.is("13 locals", v.method(NONE, NONE, 13, 0), NONE);
        Due.is("13 places", v.method(NONE, NONE, 0, 13), NONE);
        Due.is("-1 locals", v.method(NONE, NONE, -1, 5), NONE);
        Due.is("-1 places", v.method(NONE, NONE, 5, -1), NONE);
        Due.is("a sum that wraps", v.method(NONE, NONE, Integer.MAX_VALUE, Integer.MAX_VALUE), NONE);
        Due.is("a sum that cancels", v.method(NONE, NONE, Integer.MAX_VALUE, Integer.MIN_VALUE), NONE);
        Due.is("no local for the owner", v.method(0, NONE, 0, 5), NONE);
        Due.is("one local for the owner", v.method(0, NONE, 1, 5), 4);
    }

    private static void methodsNeedOwnerAndType() {
        CodeVerifier v = new CodeVerifier();
        v.kind(NONE);
        int[] others = {-2, 2, 33, 63, 66, 97, 98, 99, Integer.MIN_VALUE, Integer.MAX_VALUE};
        for (int type : others) {
            Due.is("gives " + type, v.method(NONE, type, 1, 1), NONE);
        }
        Due.is("owner 1", v.method(1, NONE, 1, 1), NONE);
        Due.is("owner -2", v.method(-2, NONE, 1, 1), NONE);
        Due.is("gives an int", v.method(NONE, 0, 1, 1), 0);
        Due.is("gives a class", v.method(0, 1, 1, 1), 1);
        Due.is("gives a row of ints", v.method(NONE, 64, 1, 1), 2);
        Due.is("gives a row", v.method(NONE, 65, 1, 1), 3);
    }

    private static void methodsAreAtMost64() {
        CodeVerifier v = new CodeVerifier();
        v.kind(NONE);
        for (int m = 0; m < 64; m++) {
            Due.is("method " + m, v.method(NONE, NONE, 0, 0), m);
        }
        Due.is("method 64", v.method(NONE, NONE, 0, 0), FULL);
        Due.is("method 64 with an owner", v.method(0, NONE, 1, 0), FULL);
        Due.is("FULL makes no owner", v.field(0, 0), 0);
        Due.is("too many locals go before FULL", v.method(NONE, NONE, 13, 0), NONE);
    }

    private static void parametersAreCounted() {
        CodeVerifier v = new CodeVerifier();
        v.kind(NONE);
        v.method(NONE, NONE, 2, 0);
        Due.is("first", v.parameter(0, 0), 1);
        Due.is("second", v.parameter(0, 1), 2);
        Due.is("as many as locals", v.parameter(0, 0), NONE);
        v.method(0, NONE, 12, 0);
        for (int p = 2; p <= 8; p++) {
            Due.is("parameter behind the owner", v.parameter(1, 0), p);
        }
        Due.is("a ninth", v.parameter(1, 0), NONE);
        v.method(0, NONE, 1, 0);
        Due.is("the owner has the only local", v.parameter(2, 0), NONE);
        v.method(NONE, NONE, 0, 3);
        Due.is("no locals", v.parameter(3, 0), NONE);
        v.method(NONE, NONE, 12, 0);
        for (int p = 1; p <= 8; p++) {
            Due.is("parameter without an owner", v.parameter(4, 0), p);
        }
        Due.is("a ninth without an owner", v.parameter(4, 0), NONE);
    }

    private static void parametersNeedAToldType() {
        CodeVerifier v = new CodeVerifier();
        Due.is("no method", v.parameter(0, 0), NONE);
        v.kind(NONE);
        v.method(NONE, NONE, 4, 0);
        int[] others = {-1, -2, 2, 33, 63, 66, 97, 98, 99, Integer.MIN_VALUE, Integer.MAX_VALUE};
        for (int type : others) {
            Due.is("type " + type, v.parameter(0, type), NONE);
        }
        Due.is("no such method", v.parameter(1, 0), NONE);
        Due.is("method NONE", v.parameter(NONE, 0), NONE);
        Due.is("class 0", v.parameter(0, 1), 1);
        Due.is("row of ints", v.parameter(0, 64), 2);
        Due.is("row of class 0", v.parameter(0, 65), 3);
    }

    private static void parametersEndWithCodeOrSlot() {
        CodeVerifier v = new CodeVerifier();
        v.kind(NONE);
        v.method(NONE, NONE, 4, 1);
        Due.is("a refused instruction", v.op(0, 2, 4, 0), NONE);
        Due.is("before instructions", v.parameter(0, 0), 1);
        v.handler(0, 0, 1, 0, 0);
        Due.is("a handler is no instruction", v.parameter(0, 0), 2);
        v.op(0, 37, 0, 0);
        Due.is("has instructions", v.parameter(0, 0), NONE);
        v.method(0, NONE, 4, 0);
        Due.is("a refused slot", v.slot(1, 16), false);
        Due.is("not in a slot", v.parameter(1, 0), 2);
        Due.is("slot", v.slot(1, 0), true);
        Due.is("in a slot", v.parameter(1, 0), NONE);
        v.method(0, NONE, 4, 0);
        v.parameter(2, 0);
        Due.is("the other one", v.slot(2, 0), true);
        Due.is("once in a slot", v.parameter(1, 0), NONE);
    }

    private static void slotsNeedAnOwnerWithNoneUnder() {
        CodeVerifier v = new CodeVerifier();
        Due.is("no method", v.slot(0, 0), false);
        v.kind(NONE);
        v.method(0, NONE, 1, 0);
        v.method(NONE, NONE, 1, 0);
        v.parameter(1, 1);
        Due.is("slot -1", v.slot(0, -1), false);
        Due.is("slot 16", v.slot(0, 16), false);
        Due.is("slot 15", v.slot(0, 15), true);
        Due.is("slot 0", v.slot(0, 0), true);
        Due.is("the same once more", v.slot(0, 0), true);
        Due.is("no owner", v.slot(1, 1), false);
        Due.is("no such method", v.slot(2, 1), false);
        Due.is("method NONE", v.slot(NONE, 1), false);
        v.kind(NONE);
        Due.is("another root is not under it", v.slot(0, 1), true);
        v.kind(0);
        Due.is("a class has it above it", v.slot(0, 2), false);
        Due.is("even in its own slot", v.slot(0, 0), false);
    }

    private static void slotsKeepWhatIsCalled() {
        CodeVerifier v = new CodeVerifier();
        v.kind(NONE);
        v.method(0, 0, 3, 0);
        v.parameter(0, 1);
        Due.is("first in slot 0", v.slot(0, 0), true);
        v.method(0, NONE, 3, 0);
        v.parameter(1, 1);
        Due.is("gives nothing", v.slot(1, 0), false);
        v.method(0, 64, 3, 0);
        v.parameter(2, 1);
        Due.is("gives another type", v.slot(2, 0), false);
        v.method(0, 0, 3, 0);
        Due.is("fewer parameters", v.slot(3, 0), false);
        v.parameter(3, 0);
        Due.is("another parameter", v.slot(3, 0), false);
        v.method(0, 0, 3, 0);
        v.parameter(4, 1);
        v.parameter(4, 1);
        Due.is("more parameters", v.slot(4, 0), false);
        v.method(0, 0, 5, 4);
        v.parameter(5, 1);
        Due.is("the same parameters and type", v.slot(5, 0), true);
        Due.is("a slot that is empty takes any", v.slot(4, 1), true);
    }

    private static void slotsAreHandedDown() {
        CodeVerifier v = new CodeVerifier();
        v.kind(NONE);
        v.method(0, 0, 1, 1);
        v.slot(0, 7);
        v.kind(0);
        v.kind(1);
        v.method(2, NONE, 1, 1);
        v.method(2, 0, 1, 1);
        Due.is("another type than that from above", v.slot(1, 7), false);
        Due.is("the owner's class may differ", v.slot(2, 7), true);
        v.method(NONE, NONE, 0, 4);
        Due.is("slot of the owner", v.op(3, 36, 0, 7), 0);
        Due.is("slot from above", v.op(3, 36, 1, 7), 1);
        Due.is("slot from two above", v.op(3, 36, 2, 7), 2);
        Due.is("empty slot", v.op(3, 36, 2, 6), NONE);
        Due.is("own slot under it", v.slot(1, 6), true);
        Due.is("now not empty", v.op(3, 36, 2, 6), 3);
        Due.is("not in the class above", v.op(3, 36, 1, 6), NONE);
    }
}
