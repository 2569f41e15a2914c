/** Promise 4: method. */
public final class Promise04Test {
    private static final int NONE = CodeVerifier.NONE;
    private static final int FULL = CodeVerifier.FULL;

    public static void main(String[] args) {
        itsNumber();
        ownerIsNone();
        typeIsNone();
        classOfTypeNotThereYet();
        belowZero();
        above12Together();
        noneForTheOwner();
        full();
        noneGoesBeforeFull();
        Due.end();
    }

    private static void itsNumber() {
        Due.promise(4, "A method, with an owner (NONE: none), that gives a type (NONE: nothing): its number");
        Run run = new Run().kinds(1);
        run.method(NONE, NONE, 1, 1).is(0);
        run.method(0, NONE, 1, 1).is(1);
        run.method(NONE, 0, 1, 1).is(2);
        run.method(0, 0, 1, 1).is(3);
        run.ops(0, 1, 37, 0).ops(2, 1, 37, 0);
        run.verify(0).is(0);
        run.verify(2).is(1);
        run.parameter(0, 0).is(NONE);
        run.parameter(1, 0).is(NONE);
        run.stands(0, 0, 1, 0).is(99);
        run.ops(1, 1, 37, 0);
        run.verify(1).is(0);
        run.stands(1, 0, 1, 0).is(1);
    }

    private static void ownerIsNone() {
        Due.promise(4, "NONE, refused, when one is none (the owner)");
        new Run().method(0, NONE, 1, 1).isRefused();
        for (int count : new int[] {1, 2, 32}) {
            Run run = new Run().kinds(count);
            for (int owner : Edges.outside(count)) {
                run.method(owner, NONE, 1, 1).isRefused();
            }
            run.method(NONE, NONE, 1, 1).is(0);
            run.method(0, NONE, 1, 1).is(1);
            run.method(count - 1, NONE, 1, 1).is(2);
        }
    }

    private static void typeIsNone() {
        Due.promise(4, "NONE, refused, when one is none (the type)");
        Run run = new Run().kinds(32);
        for (int type : Edges.OTHER_TYPES) {
            run.method(NONE, type, 1, 1).isRefused();
            run.method(0, type, 1, 1).isRefused();
        }
        int number = 0;
        for (int type : Edges.TOLD_TYPES) {
            run.method(NONE, type, 1, 1).is(number++);
        }
        run.method(NONE, NONE, 1, 1).is(number);
    }

    private static void classOfTypeNotThereYet() {
        for (int count : new int[] {0, 1, 31}) {
            Run run = new Run().kinds(count);
            run.method(NONE, count + 1, 1, 1).isRefused();
            run.method(NONE, 65 + count, 1, 1).isRefused();
            run.kind(NONE).is(count);
            run.method(NONE, count + 1, 1, 1).is(0);
            run.method(NONE, 65 + count, 1, 1).is(1);
        }
    }

    private static void belowZero() {
        Due.promise(4, "NONE, refused, when locals or stack are below 0");
        Run run = new Run().kinds(1);
        for (int below : new int[] {-1, -2, Edges.LEAST}) {
            run.method(NONE, NONE, below, 0).isRefused();
            run.method(NONE, NONE, 0, below).isRefused();
            run.method(NONE, NONE, below, 12).isRefused();
            run.method(NONE, NONE, 12, below).isRefused();
            run.method(0, NONE, below, 1).isRefused();
        }
        run.method(NONE, NONE, -1, 13).isRefused();
        run.method(NONE, NONE, 13, -1).isRefused();
        run.method(NONE, NONE, 0, 0).is(0);
    }

    private static void above12Together() {
        Due.promise(4, "NONE, refused, when locals or stack are above 12 together");
        Run run = new Run().kinds(1);
        int number = 0;
        for (int locals = 0; locals <= 12; locals++) {
            run.method(NONE, NONE, locals, 13 - locals).isRefused();
            run.method(NONE, NONE, locals, 12 - locals).is(number++);
        }
        run.method(NONE, NONE, 13, 0).isRefused();
        run.method(0, NONE, 13, 0).isRefused();
        run.method(NONE, NONE, Edges.GREATEST, 0).isRefused();
        run.method(NONE, NONE, 0, Edges.GREATEST).isRefused();
        run.method(NONE, NONE, Edges.GREATEST, 1).isRefused();
        run.method(NONE, NONE, 1, Edges.GREATEST).isRefused();
        run.method(NONE, NONE, Edges.GREATEST, Edges.GREATEST).isRefused();
        run.method(NONE, NONE, Edges.GREATEST, Edges.LEAST).isRefused();
        run.method(NONE, NONE, Edges.LEAST, Edges.LEAST).isRefused();
    }

    private static void noneForTheOwner() {
        Due.promise(4, "NONE, refused, when there are none for the owner");
        Run run = new Run().kinds(1);
        run.method(0, NONE, 0, 0).isRefused();
        run.method(0, NONE, 0, 12).isRefused();
        run.method(0, NONE, 1, 0).is(0);
        run.method(0, NONE, 1, 11).is(1);
        run.method(NONE, NONE, 0, 12).is(2);
    }

    private static void full() {
        Due.promise(4, "FULL");
        Run run = new Run().kinds(1);
        for (int m = 0; m < 64; m++) {
            run.method(NONE, NONE, 1, 1).is(m);
        }
        run.method(NONE, NONE, 1, 1).isRefused(FULL);
        run.method(0, 0, 1, 1).isRefused(FULL);
        run.field(0, 0).is(0);
        run.op(63, 35, 63).is(0);
        run.op(63, 35, 64).is(NONE);
    }

    private static void noneGoesBeforeFull() {
        Run run = new Run().kinds(1).methods(64);
        run.method(1, NONE, 1, 1).isRefused();
        run.method(NONE, 99, 1, 1).isRefused();
        run.method(NONE, NONE, -1, 1).isRefused();
        run.method(NONE, NONE, 1, 12).isRefused();
        run.method(0, NONE, 0, 1).isRefused();
    }
}
