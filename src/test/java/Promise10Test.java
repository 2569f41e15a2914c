/** Promise 10: stands. */
public final class Promise10Test {
    private static final int NONE = CodeVerifier.NONE;
    private static final int CONST = 0;
    private static final int POP = 4;
    private static final int GOTO = 25;
    private static final int NEW = 26;
    private static final int RETURN = 37;

    public static void main(String[] args) {
        howHighTheStackIs();
        theTypeOfALocal();
        theTypeOfAPlaceFromBelow();
        whatTheLastVerifyFound();
        whatAWrongOneFound();
        nothingCameThere();
        noSuchMethod();
        noSuchInstruction();
        noSuchWhat();
        noSuchLocal();
        noSuchPlace();
        notVerified();
        toldAParameterMore();
        toldAnInstructionMore();
        toldAHandlerMore();
        refusedOrToldOfOthers();
        Due.end();
    }

    /** A method of 2 locals, the first of them an int, with an int and an object on the stack before instruction 2. */
    private static Run verified() {
        Run run = new Run().kinds(1);
        run.method(NONE, NONE, 2, 3).is(0);
        run.parameter(0, 0).is(1);
        run.op(0, CONST).is(0);
        run.op(0, NEW, 0).is(1);
        run.op(0, RETURN).is(2);
        run.op(0, RETURN).is(3);
        run.verify(0).is(0);
        return run;
    }

    private static void howHighTheStackIs() {
        Due.promise(10, "how high the stack is (what = 0)");
        Run run = verified();
        for (int i = 0; i < 3; i++) {
            for (int k : new int[] {0, -1, 12, Edges.LEAST, Edges.GREATEST}) {
                run.stands(0, i, 0, k).is(i);
            }
        }
        Run highest = new Run();
        highest.method(NONE, NONE, 0, 12).is(0);
        highest.ops(0, 12, CONST, 0).ops(0, 1, RETURN, 0);
        highest.verify(0).is(0);
        highest.stands(0, 12, 0, 0).is(12);
    }

    private static void theTypeOfALocal() {
        Due.promise(10, "the type of local k (1)");
        Run run = verified();
        run.stands(0, 2, 1, 0).is(0);
        run.stands(0, 2, 1, 1).is(99);
        Run most = new Run().kinds(32);
        most.method(31, NONE, 12, 0).is(0);
        most.ops(0, 1, RETURN, 0);
        most.verify(0).is(0);
        most.stands(0, 0, 1, 0).is(32);
        most.stands(0, 0, 1, 11).is(99);
        most.stands(0, 0, 1, 12).is(NONE);
    }

    private static void theTypeOfAPlaceFromBelow() {
        Due.promise(10, "the type of place k of the stack, from below (2)");
        Run run = verified();
        run.stands(0, 1, 2, 0).is(0);
        run.stands(0, 2, 2, 0).is(0);
        run.stands(0, 2, 2, 1).is(1);
        Run highest = new Run().kinds(1);
        highest.method(NONE, NONE, 0, 12).is(0);
        highest.ops(0, 11, CONST, 0).ops(0, 1, NEW, 0).ops(0, 1, RETURN, 0);
        highest.verify(0).is(0);
        highest.stands(0, 12, 2, 0).is(0);
        highest.stands(0, 12, 2, 10).is(0);
        highest.stands(0, 12, 2, 11).is(1);
        highest.stands(0, 12, 2, 12).is(NONE);
    }

    private static void whatTheLastVerifyFound() {
        Due.promise(10, "What the last verify() of a method found");
        Run run = verified();
        run.method(NONE, NONE, 0, 1).is(1);
        run.ops(1, 1, GOTO, 2).ops(1, 2, RETURN, 0);
        run.verify(1).is(0);
        run.stands(0, 2, 0, 0).is(2);
        run.stands(1, 2, 0, 0).is(0);
        run.verify(0).is(0);
        run.stands(0, 2, 2, 1).is(1);
        run.stands(1, 1, 0, 0).is(NONE);
    }

    private static void whatAWrongOneFound() {
        Run run = new Run().methods(1);
        run.ops(0, 1, CONST, 0).ops(0, 3, POP, 0);
        run.verify(0).is(3);
        run.stands(0, 1, 0, 0).is(1);
        run.stands(0, 2, 0, 0).is(0);
        run.stands(0, 3, 0, 0).is(NONE);
    }

    private static void nothingCameThere() {
        Due.promise(10, "NONE when nothing came there");
        Run run = verified();
        run.stands(0, 2, 0, 0).is(2);
        run.stands(0, 3, 0, 0).isRefused();
        run.stands(0, 3, 1, 0).isRefused();
        run.stands(0, 3, 2, 0).isRefused();
        cameThereInAnEarlierVerifyAlone();
    }

    /** Method 1 is wrong at once when the method that it calls has a parameter. */
    private static void cameThereInAnEarlierVerifyAlone() {
        Run run = new Run().methods(2);
        run.ops(1, 1, 35, 0).ops(1, 1, RETURN, 0);
        run.verify(1).is(0);
        run.stands(1, 1, 0, 0).is(0);
        run.parameter(0, 0).is(1);
        run.stands(1, 1, 0, 0).is(0);
        run.verify(1).is(1);
        run.stands(1, 1, 0, 0).is(NONE);
        run.stands(1, 0, 0, 0).is(0);
    }

    private static void noSuchMethod() {
        Due.promise(10, "NONE when there is none (of methods)");
        new Run().stands(0, 0, 0, 0).isRefused();
        Run run = verified();
        run.stands(NONE, 0, 0, 0).isRefused();
        for (int m : Edges.outside(1)) {
            run.stands(m, 0, 0, 0).isRefused();
        }
        Run most = new Run().methods(64);
        most.op(63, RETURN).is(0);
        most.verify(63).is(0);
        most.stands(63, 0, 0, 0).is(0);
        most.stands(64, 0, 0, 0).is(NONE);
    }

    private static void noSuchInstruction() {
        Due.promise(10, "NONE when there is none (of instructions)");
        Run run = verified();
        run.stands(0, -1, 0, 0).isRefused();
        for (int i : Edges.outside(4)) {
            run.stands(0, i, 0, 0).isRefused();
        }
        Run most = new Run().methods(1).ops(0, 200, GOTO, 199);
        most.verify(0).is(0);
        most.stands(0, 0, 0, 0).is(0);
        most.stands(0, 199, 0, 0).is(0);
        most.stands(0, 198, 0, 0).is(NONE);
        most.stands(0, 200, 0, 0).is(NONE);
    }

    private static void noSuchWhat() {
        Due.promise(10, "NONE when there is none (what is not 0, 1 or 2)");
        Run run = verified();
        run.stands(0, 2, -1, 0).isRefused();
        for (int what : Edges.outside(3)) {
            run.stands(0, 2, what, 0).isRefused();
        }
    }

    private static void noSuchLocal() {
        Due.promise(10, "NONE when there is none (of locals)");
        Run run = verified();
        run.stands(0, 2, 1, -1).isRefused();
        for (int k : Edges.outside(2)) {
            run.stands(0, 2, 1, k).isRefused();
        }
        Run without = new Run();
        without.method(NONE, NONE, 0, 12).is(0);
        without.ops(0, 1, CONST, 0).ops(0, 1, RETURN, 0);
        without.verify(0).is(0);
        without.stands(0, 1, 1, 0).is(NONE);
    }

    private static void noSuchPlace() {
        Due.promise(10, "NONE when there is none (of places on the stack)");
        Run run = verified();
        run.stands(0, 0, 2, 0).isRefused();
        run.stands(0, 1, 2, 1).isRefused();
        run.stands(0, 2, 2, -1).isRefused();
        for (int k : Edges.outside(2)) {
            run.stands(0, 2, 2, k).isRefused();
        }
    }

    private static void notVerified() {
        Due.promise(10, "NONE when it was not verified");
        Run run = new Run().methods(2);
        run.ops(0, 1, RETURN, 0).ops(1, 1, RETURN, 0);
        run.stands(0, 0, 0, 0).isRefused();
        run.stands(0, 0, 1, 0).isRefused();
        run.verify(1).is(0);
        run.stands(0, 0, 0, 0).isRefused();
        run.verify(0).is(0);
        run.stands(0, 0, 0, 0).is(0);
    }

    /** With a parameter told there is no instruction yet, so that there was nothing to be found before one. */
    private static void toldAParameterMore() {
        Due.promise(10, "NONE when told a parameter more since");
        Run run = new Run().methods(1);
        run.verify(0).is(1);
        run.stands(0, 0, 0, 0).is(NONE);
        run.parameter(0, 0).is(1);
        run.stands(0, 0, 0, 0).is(NONE);
        run.op(0, RETURN).is(0);
        run.stands(0, 0, 1, 0).is(NONE);
        run.verify(0).is(0);
        run.stands(0, 0, 1, 0).is(0);
    }

    private static void toldAnInstructionMore() {
        Due.promise(10, "NONE when told an instruction more since");
        Run run = verified();
        run.op(0, RETURN).is(4);
        for (int what = 0; what < 3; what++) {
            run.stands(0, 2, what, 0).is(NONE);
        }
        run.verify(0).is(0);
        run.stands(0, 2, 0, 0).is(2);
    }

    private static void toldAHandlerMore() {
        Due.promise(10, "NONE when told a handler more since");
        Run run = verified();
        run.handler(0, 3, 4, 0, 0).is(0);
        for (int what = 0; what < 3; what++) {
            run.stands(0, 2, what, 0).is(NONE);
        }
        run.verify(0).is(0);
        run.stands(0, 2, 0, 0).is(2);
    }

    private static void refusedOrToldOfOthers() {
        Due.promise(10, "told a parameter, instruction or handler more");
        Run run = verified();
        run.parameter(0, 0).isRefused();
        run.op(0, 42).isRefused();
        run.op(0, 2, 2).isRefused();
        run.handler(0, 0, 0, 0, 0).isRefused();
        run.stands(0, 2, 0, 0).is(2);
        run.method(0, NONE, 3, 3).is(1);
        run.parameter(1, 0).is(2);
        run.slot(1, 0).is(true);
        run.op(1, RETURN).is(0);
        run.handler(1, 0, 1, 0, 0).is(0);
        run.kind(0).is(1);
        run.stands(0, 2, 0, 0).is(2);
        run.stands(0, 2, 2, 1).is(1);
    }
}
