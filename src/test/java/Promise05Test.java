/** Promise 5: parameter. */
public final class Promise05Test {
    private static final int NONE = CodeVerifier.NONE;

    public static void main(String[] args) {
        howManyItHas();
        noSuchMethod();
        noSuchType();
        noSuchClassOfType();
        asManyAsLocals();
        orEight();
        hasInstructions();
        refusedInstructionsAndHandlersAreNone();
        standsInASlot();
        onceStoodInASlot();
        refusedSlotsAreNone();
        Due.end();
    }

    private static void howManyItHas() {
        Due.promise(5, "A method has one parameter more: how many it has");
        Run run = new Run().kinds(1);
        run.method(NONE, NONE, 3, 0).is(0);
        run.method(0, NONE, 3, 0).is(1);
        run.parameter(0, 64).is(1);
        run.parameter(1, 0).is(2);
        run.parameter(0, 1).is(2);
        run.ops(0, 1, 37, 0).ops(1, 1, 37, 0);
        run.verify(0).is(0);
        run.verify(1).is(0);
        run.stands(0, 0, 1, 0).is(64);
        run.stands(0, 0, 1, 1).is(1);
        run.stands(0, 0, 1, 2).is(99);
        run.stands(1, 0, 1, 0).is(1);
        run.stands(1, 0, 1, 1).is(0);
        run.stands(1, 0, 1, 2).is(99);
    }

    private static void noSuchMethod() {
        Due.promise(5, "NONE, refused, when there is no such method");
        new Run().parameter(0, 0).isRefused();
        for (int count : new int[] {1, 2, 64}) {
            Run run = new Run().methods(count);
            run.parameter(NONE, 0).isRefused();
            for (int m : Edges.outside(count)) {
                run.parameter(m, 0).isRefused();
            }
            run.parameter(0, 0).is(1);
            run.parameter(count - 1, 0).is(count == 1 ? 2 : 1);
        }
    }

    private static void noSuchType() {
        Due.promise(5, "NONE, refused, when there is no such type");
        Run run = new Run().kinds(32);
        run.method(NONE, NONE, 8, 0).is(0);
        run.parameter(0, NONE).isRefused();
        for (int type : Edges.OTHER_TYPES) {
            run.parameter(0, type).isRefused();
        }
        int count = 0;
        for (int type : Edges.TOLD_TYPES) {
            run.parameter(0, type).is(++count);
        }
    }

    private static void noSuchClassOfType() {
        Due.promise(5, "NONE, refused, when there is no such class of it");
        for (int count : new int[] {0, 1, 31}) {
            Run run = new Run().kinds(count).methods(1);
            run.parameter(0, count + 1).isRefused();
            run.parameter(0, 65 + count).isRefused();
            run.kind(NONE).is(count);
            run.parameter(0, count + 1).is(1);
            run.parameter(0, 65 + count).is(2);
        }
    }

    private static void asManyAsLocals() {
        Due.promise(5, "NONE, refused, when it has as many as locals");
        for (int locals : new int[] {0, 1, 2, 7}) {
            Run run = new Run();
            run.method(NONE, NONE, locals, 12 - locals).is(0);
            for (int p = 1; p <= locals; p++) {
                run.parameter(0, 0).is(p);
            }
            run.parameter(0, 0).isRefused();
        }
        for (int locals : new int[] {1, 2, 7}) {
            Run run = new Run().kinds(1);
            run.method(0, NONE, locals, 12 - locals).is(0);
            for (int p = 2; p <= locals; p++) {
                run.parameter(0, 0).is(p);
            }
            run.parameter(0, 0).isRefused();
        }
    }

    private static void orEight() {
        Due.promise(5, "NONE, refused, when it has 8");
        for (int locals : new int[] {8, 9, 12}) {
            for (int owner : new int[] {NONE, 0}) {
                Run run = new Run().kinds(1);
                run.method(owner, NONE, locals, 0).is(0);
                for (int p = owner == NONE ? 1 : 2; p <= 8; p++) {
                    run.parameter(0, 0).is(p);
                }
                run.parameter(0, 0).isRefused();
            }
        }
    }

    private static void hasInstructions() {
        Due.promise(5, "NONE, refused, when it has instructions");
        Run run = new Run();
        run.methods(2);
        run.parameter(0, 0).is(1);
        run.op(0, 37).is(0);
        run.parameter(0, 0).isRefused();
        run.parameter(1, 0).is(1);
        run.op(0, 37).is(1);
        run.parameter(0, 0).isRefused();
    }

    private static void refusedInstructionsAndHandlersAreNone() {
        Run run = new Run().kinds(1).methods(2);
        run.op(0, 42).isRefused();
        run.op(0, 2, 6).isRefused();
        run.parameter(0, 0).is(1);
        run.handler(0, 0, 1, 0, 0).is(0);
        run.parameter(0, 0).is(2);
        run.op(1, 35, 0).is(0);
        run.parameter(0, 0).is(3);
        run.verify(0).is(1);
        run.parameter(0, 0).is(4);
    }

    private static void standsInASlot() {
        Due.promise(5, "NONE, refused, when it stands in a slot");
        for (int slot : new int[] {0, 15}) {
            Run run = new Run().kinds(1);
            run.method(0, NONE, 4, 0).is(0);
            run.method(0, NONE, 4, 0).is(1);
            run.parameter(0, 0).is(2);
            run.slot(0, slot).is(true);
            run.parameter(0, 0).isRefused();
            run.parameter(1, 0).is(2);
        }
    }

    private static void onceStoodInASlot() {
        Due.promise(5, "NONE, refused, when it once stood in a slot");
        Run run = new Run().kinds(1);
        run.method(0, NONE, 4, 0).is(0);
        run.method(0, NONE, 4, 0).is(1);
        run.slot(0, 3).is(true);
        run.slot(1, 3).is(true);
        run.parameter(0, 0).isRefused();
        run.parameter(1, 0).isRefused();
    }

    private static void refusedSlotsAreNone() {
        Run run = new Run().kinds(1);
        run.method(0, NONE, 4, 0).is(0);
        run.method(0, 0, 4, 0).is(1);
        run.method(NONE, NONE, 4, 0).is(2);
        run.slot(0, 3).is(true);
        run.slot(1, 3).isRefused(0);
        run.slot(1, 16).isRefused(0);
        run.slot(2, 4).isRefused(0);
        run.parameter(1, 0).is(2);
        run.parameter(2, 0).is(1);
        run.kind(0).is(1);
        run.slot(1, 4).isRefused(0);
        run.parameter(1, 0).is(3);
    }
}
