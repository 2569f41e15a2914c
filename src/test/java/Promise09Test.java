/** Promise 9: verify. */
public final class Promise09Test {
    private static final int NONE = CodeVerifier.NONE;
    private static final int CONST = 0;
    private static final int POP = 4;
    private static final int IF = 19;
    private static final int GOTO = 25;
    private static final int CALL = 35;
    private static final int RETURN = 37;
    private static final int IN = 40;

    public static void main(String[] args) {
        allFits();
        onePlusTheWrongOne();
        theFirstThatIsWrong();
        asItIsTold();
        onceMore();
        aTargetThatIsNoInstruction();
        theLastTarget();
        aTargetOfEachJump();
        asItComesToTheTarget();
        aPlaceThatIsNoInstruction();
        theLastPlace();
        asItComesToThePlace();
        withoutInstructions();
        noSuchMethod();
        Due.end();
    }

    private static void allFits() {
        Due.promise(9, "Verifies a method: 0");
        Run shortest = new Run().methods(1);
        shortest.op(0, RETURN).is(0);
        shortest.verify(0).is(0);
        Run longest = new Run().methods(1);
        for (int i = 0; i < 198; i += 2) {
            longest.op(0, CONST).is(i);
            longest.op(0, POP).is(i + 1);
        }
        longest.ops(0, 2, RETURN, 0);
        longest.verify(0).is(0);
        longest.looked().is(199);
    }

    private static void onePlusTheWrongOne() {
        Due.promise(9, "or 1 plus the instruction that is wrong");
        for (int wrong : new int[] {0, 1, 198, 199}) {
            Run run = new Run().methods(1);
            for (int i = 0; i < wrong; i++) {
                run.op(0, GOTO, i + 1).is(i);
            }
            run.op(0, POP).is(wrong);
            run.op(0, RETURN);
            run.verify(0).is(1 + wrong);
            run.looked().is(1 + wrong);
        }
    }

    private static void theFirstThatIsWrong() {
        Due.terms("The first that is wrong ends it");
        Run run = new Run().methods(1).ops(0, 3, POP, 0);
        run.verify(0).is(1);
        run.looked().is(1);
        run.stands(0, 1, 0, 0).is(NONE);
    }

    private static void asItIsTold() {
        Due.promise(9, "Verifies a method as it is told");
        Run run = new Run().methods(2);
        run.op(0, CALL, 1).is(0);
        run.verify(0).is(1);
        run.op(0, RETURN).is(1);
        run.verify(0).is(0);
        run.parameter(1, 0).is(1);
        run.verify(0).is(1);
        run.kind(NONE).is(0);
        run.handler(0, 0, 1, 0, 7).is(0);
        run.verify(0).is(1);
    }

    /** The first time ends with 1 still marked, to which only the handler of 2 comes. */
    private static void onceMore() {
        Due.terms("MARKED is instruction 0");
        Run run = new Run().kinds(1).methods(1);
        run.ops(0, 1, GOTO, 2).ops(0, 1, RETURN, 0).ops(0, 1, POP, 0);
        run.handler(0, 2, 3, 0, 1).is(0);
        for (int time = 0; time < 2; time++) {
            run.verify(0).is(3);
            run.looked().is(2);
            run.stands(0, 1, 0, 0).is(1);
        }
    }

    private static void aTargetThatIsNoInstruction() {
        Due.promise(9, "A target that is no instruction is wrong at what jumps there");
        Run run = new Run().methods(1);
        run.op(0, GOTO, 1).is(0);
        run.op(0, GOTO, 2).is(1);
        run.verify(0).is(2);
        run.stands(0, 1, 0, 0).is(0);
        run.op(0, GOTO, 2).is(2);
        run.verify(0).is(0);
        run.op(0, GOTO, 199).is(3);
        run.verify(0).is(0);
    }

    private static void theLastTarget() {
        Run run = new Run().methods(1);
        run.op(0, GOTO, 199).is(0);
        run.ops(0, 198, RETURN, 0);
        run.verify(0).is(1);
        run.op(0, RETURN).is(199);
        run.verify(0).is(0);
        run.stands(0, 199, 0, 0).is(0);
    }

    private static void aTargetOfEachJump() {
        for (int op = IF; op < GOTO; op++) {
            Run run = new Run().methods(1);
            int taken = op == 20 || op >= 23 ? 2 : 1;
            run.ops(0, taken, op <= 20 ? CONST : 1, 0);
            run.op(0, op, taken + 2).is(taken);
            run.op(0, RETURN).is(taken + 1);
            run.verify(0).is(1 + taken);
            run.stands(0, taken + 1, 0, 0).is(0);
            run.op(0, RETURN).is(taken + 2);
            run.verify(0).is(0);
            run.stands(0, taken + 2, 0, 0).is(0);
        }
    }

    private static void asItComesToTheTarget() {
        Due.promise(9, "is wrong as it comes to it (a target)");
        Run unreached = new Run().methods(1);
        unreached.op(0, GOTO, 2).is(0);
        unreached.op(0, GOTO, 199).is(1);
        unreached.op(0, RETURN).is(2);
        unreached.verify(0).is(0);
        Run nextIsWrong = new Run().methods(1);
        nextIsWrong.op(0, IN).is(0);
        nextIsWrong.op(0, IF, 4).is(1);
        nextIsWrong.ops(0, 1, IN, 0).ops(0, 1, IN, 0);
        nextIsWrong.op(0, IF, 199).is(4);
        nextIsWrong.verify(0).is(5);
        Run itselfIsWrong = new Run().methods(1);
        itselfIsWrong.op(0, GOTO, 1).is(0);
        itselfIsWrong.op(0, IF, 199).is(1);
        itselfIsWrong.verify(0).is(2);
    }

    private static void aPlaceThatIsNoInstruction() {
        Due.promise(9, "A place of a handler that is no instruction is wrong at what is covered by it");
        Run run = new Run().kinds(1).methods(1);
        run.ops(0, 1, IN, 0).ops(0, 1, POP, 0).ops(0, 1, RETURN, 0);
        run.handler(0, 1, 2, 0, 3).is(0);
        run.verify(0).is(2);
        run.looked().is(2);
        run.op(0, POP).is(3);
        run.op(0, RETURN).is(4);
        run.verify(0).is(0);
        run.stands(0, 3, 2, 0).is(1);
    }

    private static void theLastPlace() {
        Run run = new Run().kinds(1).methods(1);
        run.handler(0, 0, 1, 0, 199).is(0);
        run.ops(0, 199, RETURN, 0);
        run.verify(0).is(1);
        run.op(0, RETURN).is(199);
        run.verify(0).is(0);
        run.stands(0, 199, 0, 0).is(1);
    }

    private static void asItComesToThePlace() {
        Due.promise(9, "is wrong as it comes to it (a place of a handler)");
        Run unreached = new Run().kinds(1).methods(1);
        unreached.ops(0, 2, RETURN, 0);
        unreached.handler(0, 1, 200, 0, 199).is(0);
        unreached.verify(0).is(0);
        Run first = new Run().kinds(1).methods(1);
        first.ops(0, 1, IN, 0).ops(0, 2, POP, 0);
        first.handler(0, 2, 3, 0, 199).is(0);
        first.verify(0).is(3);
        first.stands(0, 2, 0, 0).is(0);
        Run before = new Run().kinds(1).methods(1);
        before.ops(0, 1, IN, 0).ops(0, 1, RETURN, 0);
        before.handler(0, 0, 1, 0, 199).is(0);
        before.verify(0).is(1);
        before.stands(0, 1, 0, 0).is(NONE);
    }

    private static void withoutInstructions() {
        Due.promise(9, "a method without instructions is wrong at 0");
        Run run = new Run().kinds(1);
        run.method(NONE, NONE, 0, 0).is(0);
        run.method(0, 0, 12, 0).is(1);
        run.verify(0).is(1);
        run.looked().is(0);
        run.verify(1).is(1);
        run.handler(0, 0, 200, 0, 0).is(0);
        run.verify(0).is(1);
        run.stands(0, 0, 0, 0).is(NONE);
    }

    private static void noSuchMethod() {
        Due.promise(9, "NONE when there is no such method");
        new Run().verify(0).isRefused();
        for (int count : new int[] {1, 2, 64}) {
            Run run = new Run().methods(count);
            run.op(0, RETURN).is(0);
            run.verify(0).is(0);
            run.verify(NONE).isRefused();
            for (int m : Edges.outside(count)) {
                run.verify(m).isRefused();
            }
            run.stands(0, 0, 0, 0).is(0);
            run.verify(count - 1).is(count == 1 ? 0 : 1);
        }
    }
}
