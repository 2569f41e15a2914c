/** Promises 7 and 8: op, handler. */
public final class CodeTest {
    private static final int NONE = CodeVerifier.NONE;
    private static final int FULL = CodeVerifier.FULL;

    public static void main(String[] args) {
        opsAreNumbered();
        operandsNotNamedAreNotLookedAt();
        localsAndTargets();
        classesFieldsAndRows();
        methodsAndSlots();
        opsAreAtMost200();
        handlersNeedClassAndPlaces();
        handlersAreAtMost8();
        Due.end();
    }

    private static void opsAreNumbered() {
        CodeVerifier v = new CodeVerifier();
        Due.is("no method", v.op(0, 0, 0, 0), NONE);
        v.method(NONE, NONE, 0, 0);
        Due.is("op -1", v.op(0, -1, 0, 0), NONE);
        Due.is("op 42", v.op(0, 42, 0, 0), NONE);
        Due.is("least op", v.op(0, Integer.MIN_VALUE, 0, 0), NONE);
        Due.is("greatest op", v.op(0, Integer.MAX_VALUE, 0, 0), NONE);
        Due.is("method 1", v.op(1, 0, 0, 0), NONE);
        Due.is("method NONE", v.op(NONE, 0, 0, 0), NONE);
        Due.is("first", v.op(0, 0, 0, 0), 0);
        Due.is("last op", v.op(0, 41, 0, 0), 1);
        v.method(NONE, NONE, 0, 0);
        Due.is("each method has its own", v.op(1, 0, 0, 0), 0);
    }

    private static void operandsNotNamedAreNotLookedAt() {
        CodeVerifier v = new CodeVerifier();
        v.kind(NONE);
        v.field(0, 0);
        v.method(NONE, NONE, 1, 1);
        int[] none = {0, 1, 4, 5, 6, 7, 8, 9, 10, 11, 12, 13, 14, 15, 16, 17, 18, 32, 33, 34, 37, 38, 39, 40, 41};
        int number = 0;
        for (int op : none) {
            Due.is("op " + op + " names none", v.op(0, op, Integer.MIN_VALUE, Integer.MAX_VALUE), number++);
        }
        int[] first = {2, 3, 19, 20, 21, 22, 23, 24, 25, 26, 29, 30, 31, 35};
        for (int op : first) {
            Due.is("op " + op + " names x alone", v.op(0, op, 0, Integer.MAX_VALUE), number++);
        }
    }

    private static void localsAndTargets() {
        CodeVerifier v = new CodeVerifier();
        v.method(NONE, NONE, 3, 1);
        for (int op = 2; op <= 3; op++) {
            Due.is("local -1", v.op(0, op, -1, 0), NONE);
            Due.is("local 3", v.op(0, op, 3, 0), NONE);
            Due.is("local 2", v.op(0, op, 2, 0), op - 2);
        }
        for (int op = 19; op <= 25; op++) {
            Due.is("target -1", v.op(0, op, -1, 0), NONE);
            Due.is("target 200", v.op(0, op, 200, 0), NONE);
            Due.is("target 199", v.op(0, op, 199, 0), 2 + 2 * (op - 19));
            Due.is("target 0", v.op(0, op, 0, 0), 3 + 2 * (op - 19));
        }
    }

    private static void classesFieldsAndRows() {
        CodeVerifier v = new CodeVerifier();
        v.method(NONE, NONE, 0, 1);
        int number = 0;
        Due.is("ROW of a class that is not there", v.op(0, 31, 1, 0), NONE);
        Due.is("ROW of ints", v.op(0, 31, 0, 0), number++);
        v.kind(NONE);
        v.field(0, 0);
        v.kind(NONE);
        int[] ofClass = {26, 29, 30};
        for (int op : ofClass) {
            Due.is("class -1", v.op(0, op, -1, 0), NONE);
            Due.is("class 2", v.op(0, op, 2, 0), NONE);
            Due.is("class 1", v.op(0, op, 1, 0), number++);
        }
        for (int op = 27; op <= 28; op++) {
            Due.is("field of class -1", v.op(0, op, -1, 0), NONE);
            Due.is("field of class 2", v.op(0, op, 2, 0), NONE);
            Due.is("field -1", v.op(0, op, 0, -1), NONE);
            Due.is("field 1", v.op(0, op, 0, 1), NONE);
            Due.is("field 15", v.op(0, op, 0, 15), NONE);
            Due.is("field of a class without", v.op(0, op, 1, 0), NONE);
            Due.is("field 0", v.op(0, op, 0, 0), number++);
        }
        Due.is("ROW -1", v.op(0, 31, -1, 0), NONE);
        Due.is("ROW 3", v.op(0, 31, 3, 0), NONE);
        Due.is("ROW 2", v.op(0, 31, 2, 0), number);
    }

    private static void methodsAndSlots() {
        CodeVerifier v = new CodeVerifier();
        v.kind(NONE);
        v.method(0, NONE, 1, 1);
        v.slot(0, 15);
        Due.is("CALL -1", v.op(0, 35, -1, 0), NONE);
        Due.is("CALL 1", v.op(0, 35, 1, 0), NONE);
        Due.is("CALL itself", v.op(0, 35, 0, 0), 0);
        Due.is("SEND to class -1", v.op(0, 36, -1, 15), NONE);
        Due.is("SEND to class 1", v.op(0, 36, 1, 15), NONE);
        Due.is("SEND to slot -1", v.op(0, 36, 0, -1), NONE);
        Due.is("SEND to slot 16", v.op(0, 36, 0, 16), NONE);
        Due.is("SEND to an empty slot", v.op(0, 36, 0, 14), NONE);
        Due.is("SEND", v.op(0, 36, 0, 15), 1);
    }

    private static void opsAreAtMost200() {
        CodeVerifier v = new CodeVerifier();
        v.method(NONE, NONE, 0, 1);
        for (int i = 0; i < 199; i++) {
            Due.is("op " + i, v.op(0, i % 2 == 0 ? 0 : 4, 0, 0), i);
        }
        Due.is("op 199", v.op(0, 37, 0, 0), 199);
        Due.is("verify", v.verify(0), 0);
        Due.is("op 200", v.op(0, 37, 0, 0), FULL);
        Due.is("no local goes before FULL", v.op(0, 2, 0, 0), NONE);
        Due.is("no op goes before FULL", v.op(0, 42, 0, 0), NONE);
        Due.is("FULL tells nothing more", v.stands(0, 199, 0, 0), 1);
        Due.is("looked", v.looked(), 200);
    }

    private static void handlersNeedClassAndPlaces() {
        CodeVerifier v = new CodeVerifier();
        Due.is("no method", v.handler(0, 0, 1, 0, 0), NONE);
        v.method(NONE, NONE, 0, 1);
        Due.is("no class", v.handler(0, 0, 1, 0, 0), NONE);
        v.kind(NONE);
        Due.is("method 1", v.handler(1, 0, 1, 0, 0), NONE);
        Due.is("method NONE", v.handler(NONE, 0, 1, 0, 0), NONE);
        Due.is("class 1", v.handler(0, 0, 1, 1, 0), NONE);
        Due.is("class NONE", v.handler(0, 0, 1, NONE, 0), NONE);
        Due.is("from -1", v.handler(0, -1, 1, 0, 0), NONE);
        Due.is("from = to", v.handler(0, 1, 1, 0, 0), NONE);
        Due.is("from > to", v.handler(0, 2, 1, 0, 0), NONE);
        Due.is("to 201", v.handler(0, 0, 201, 0, 0), NONE);
        Due.is("place -1", v.handler(0, 0, 1, 0, -1), NONE);
        Due.is("place 200", v.handler(0, 0, 1, 0, 200), NONE);
        Due.is("the widest", v.handler(0, 0, 200, 0, 199), 0);
        Due.is("the last", v.handler(0, 199, 200, 0, 0), 1);
    }

    private static void handlersAreAtMost8() {
        CodeVerifier v = new CodeVerifier();
        v.kind(NONE);
        v.method(NONE, NONE, 0, 1);
        for (int h = 0; h < 8; h++) {
            Due.is("handler " + h, v.handler(0, 0, 1, 0, 0), h);
        }
        Due.is("handler 8", v.handler(0, 0, 1, 0, 0), FULL);
        Due.is("no class goes before FULL", v.handler(0, 0, 1, 1, 0), NONE);
    }
}
