/** Promise 7: op. */
public final class Promise07Test {
    private static final int NONE = CodeVerifier.NONE;
    private static final int FULL = CodeVerifier.FULL;
    private static final int GET = 27;
    private static final int PUT = 28;
    private static final int ROW = 31;
    private static final int CALL = 35;
    private static final int SEND = 36;

    public static void main(String[] args) {
        itsNumber();
        noSuchMethod();
        opIsNot0To41();
        aLocalIsNone();
        aClassIsNone();
        aFieldIsNone();
        aMethodIsNone();
        aSlotIsNone();
        aSlotIsEmpty();
        rowIsNot0ToTheNumberOfClasses();
        aTargetIsNot0To199();
        fullWith200();
        noneGoesBeforeFull();
        operandsThatAreNotNamed();
        Due.end();
    }

    private static void itsNumber() {
        Due.promise(7, "An instruction behind those of a method: its number");
        Run run = new Run().methods(2);
        run.op(0, 0).is(0);
        run.op(0, 0).is(1);
        run.op(1, 0).is(0);
        run.op(0, 0).is(2);
    }

    private static void noSuchMethod() {
        Due.promise(7, "NONE, refused, when there is no such method");
        new Run().op(0, 0).isRefused();
        for (int count : new int[] {1, 2, 64}) {
            Run run = new Run().methods(count);
            run.op(NONE, 0).isRefused();
            for (int m : Edges.outside(count)) {
                run.op(m, 0).isRefused();
            }
            run.op(0, 0).is(0);
            run.op(count - 1, 0).is(count == 1 ? 1 : 0);
        }
    }

    private static void opIsNot0To41() {
        Due.promise(7, "NONE, refused, when op is not 0 .. 41");
        Run run = new Run().methods(1);
        run.op(0, -1).isRefused();
        for (int op : Edges.outside(42)) {
            run.op(0, op).isRefused();
        }
        run.op(0, 0).is(0);
        run.op(0, 41).is(1);
    }

    private static void aLocalIsNone() {
        Due.promise(7, "NONE, refused, when a local is none");
        for (int op = 2; op <= 3; op++) {
            for (int locals : new int[] {0, 1, 3, 12}) {
                Run run = new Run();
                run.method(NONE, NONE, locals, 12 - locals).is(0);
                run.op(0, op, -1).isRefused();
                for (int x : Edges.outside(locals)) {
                    run.op(0, op, x).isRefused();
                }
                run.op(0, op, locals - 1).is(locals == 0 ? NONE : 0);
                run.op(0, op, 0).is(locals == 0 ? NONE : 1);
            }
        }
    }

    /** The first and the last class have a field 0 and a method in slot 0, so that only the class can be none. */
    private static void aClassIsNone() {
        Due.promise(7, "NONE, refused, when a class is none");
        for (int op : new int[] {26, GET, PUT, 29, 30, SEND}) {
            new Run().methods(1).op(0, op).isRefused();
            for (int count : new int[] {1, 2, 32}) {
                Run run = new Run().kinds(count).fields(0, 1);
                int last = count - 1;
                run.field(last, 0);
                run.method(0, NONE, 1, 1).is(0);
                run.method(last, NONE, 1, 1).is(1);
                run.slot(0, 0).is(true);
                run.slot(1, 0).is(true);
                run.op(0, op, -1).isRefused();
                for (int x : Edges.outside(count)) {
                    run.op(0, op, x).isRefused();
                }
                run.op(0, op, 0).is(0);
                run.op(0, op, last).is(1);
            }
        }
    }

    private static void aFieldIsNone() {
        Due.promise(7, "NONE, refused, when a field is none");
        for (int op = GET; op <= PUT; op++) {
            for (int count : new int[] {0, 1, 14, 15}) {
                Run run = new Run().kinds(2).fields(0, count).fields(1, 15).methods(1);
                run.op(0, op, 0, -1).isRefused();
                for (int y : Edges.outside(count)) {
                    run.op(0, op, 0, y).isRefused();
                }
                run.op(0, op, 0, 15).isRefused();
                run.op(0, op, 0, count - 1).is(count == 0 ? NONE : 0);
                run.op(0, op, 0, 0).is(count == 0 ? NONE : 1);
            }
        }
        aFieldOfAClassUnderIsNone();
    }

    private static void aFieldOfAClassUnderIsNone() {
        Run run = new Run().kinds(1).fields(0, 1);
        run.kind(0).is(1);
        run.field(1, 0).is(1);
        run.methods(1);
        run.op(0, GET, 0, 1).isRefused();
        run.op(0, GET, 1, 0).is(0);
        run.op(0, GET, 1, 1).is(1);
        run.op(0, GET, 1, 2).isRefused();
    }

    private static void aMethodIsNone() {
        Due.promise(7, "NONE, refused, when a method is none");
        for (int count : new int[] {1, 2, 64}) {
            Run run = new Run().methods(count);
            run.op(0, CALL, -1).isRefused();
            for (int x : Edges.outside(count)) {
                run.op(0, CALL, x).isRefused();
            }
            run.op(0, CALL, 0).is(0);
            run.op(0, CALL, count - 1).is(1);
        }
    }

    private static void aSlotIsNone() {
        Due.promise(7, "NONE, refused, when a slot is none");
        Run run = new Run().kinds(1);
        run.method(0, NONE, 1, 1).is(0);
        for (int s = 0; s < 16; s++) {
            run.slot(0, s).is(true);
        }
        run.op(0, SEND, 0, -1).isRefused();
        for (int y : Edges.outside(16)) {
            run.op(0, SEND, 0, y).isRefused();
        }
        run.op(0, SEND, 0, 0).is(0);
        run.op(0, SEND, 0, 15).is(1);
    }

    private static void aSlotIsEmpty() {
        Due.promise(7, "NONE, refused, when a slot that is not empty is none");
        for (int filled : new int[] {0, 1, 14, 15}) {
            Run run = new Run().kinds(2);
            run.method(0, NONE, 1, 1).is(0);
            run.op(0, SEND, 0, filled).isRefused();
            run.slot(0, filled).is(true);
            for (int y = 0; y < 16; y++) {
                run.op(0, SEND, 0, y).is(y == filled ? 0 : NONE);
            }
            run.op(0, SEND, 1, filled).isRefused();
        }
    }

    private static void rowIsNot0ToTheNumberOfClasses() {
        Due.promise(7, "NONE, refused, when x of ROW is not 0 .. the number of classes");
        for (int count : new int[] {0, 1, 31, 32}) {
            Run run = new Run().kinds(count).methods(1);
            run.op(0, ROW, -1).isRefused();
            for (int x : Edges.outside(count + 1)) {
                run.op(0, ROW, x).isRefused();
            }
            run.op(0, ROW, 0).is(0);
            run.op(0, ROW, count).is(1);
        }
    }

    private static void aTargetIsNot0To199() {
        Due.promise(7, "NONE, refused, when a target is not 0 .. 199");
        for (int op = 19; op <= 25; op++) {
            Run run = new Run().methods(1);
            run.op(0, op, -1).isRefused();
            for (int x : Edges.outside(200)) {
                run.op(0, op, x).isRefused();
            }
            run.op(0, op, 0).is(0);
            run.op(0, op, 199).is(1);
        }
    }

    private static void fullWith200() {
        Due.promise(7, "FULL when it has 200");
        Run run = new Run().methods(2);
        for (int i = 0; i < 200; i++) {
            run.op(0, 25, 199).is(i);
        }
        run.op(0, 25, 199).isRefused(FULL);
        run.op(0, 0).isRefused(FULL);
        run.op(1, 0).is(0);
        run.verify(0).is(0);
        run.op(0, 0).isRefused(FULL);
        run.stands(0, 199, 0, 0).is(0);
    }

    private static void noneGoesBeforeFull() {
        Run run = new Run().methods(1).ops(0, 200, 0, 0);
        run.op(1, 0).isRefused();
        run.op(0, 42).isRefused();
        run.op(0, 2, 6).isRefused();
        run.op(0, 26, 0).isRefused();
        run.op(0, CALL, 1).isRefused();
        run.op(0, ROW, 1).isRefused();
        run.op(0, 25, 200).isRefused();
    }

    private static void operandsThatAreNotNamed() {
        Due.promise(7, "Operands that are not named are not looked at");
        int[] extremes = {Edges.LEAST, -1, 200, Edges.GREATEST};
        for (int other : extremes) {
            Run run = new Run().kinds(1).methods(1);
            int number = 0;
            for (int op = 0; op <= 41; op++) {
                boolean namesX = op == 2 || op == 3 || (op >= 19 && op <= 31) || op == CALL || op == SEND;
                boolean namesY = op == GET || op == PUT || op == SEND;
                if (!namesY) {
                    run.op(0, op, namesX ? 0 : other, other).is(number++);
                }
            }
        }
    }
}
