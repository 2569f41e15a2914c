/** Promise 11: looked. */
public final class Promise11Test {
    private static final int NONE = CodeVerifier.NONE;
    private static final int CONST = 0;
    private static final int STORE = 3;
    private static final int POP = 4;
    private static final int IF = 19;
    private static final int GOTO = 25;
    private static final int RETURN = 37;
    private static final int IN = 40;

    public static void main(String[] args) {
        zeroBefore();
        howManyWereLookedAt();
        noneInAnEmptyMethod();
        theWrongOneIsLookedAt();
        whatIsComeToAndWrongIsNot();
        eachTimeCounted();
        ofTheLastVerify();
        askingChangesNothing();
        Due.end();
    }

    private static void zeroBefore() {
        Due.promise(11, "0 before");
        Run run = new Run();
        run.looked().is(0);
        run.kinds(1).methods(1);
        run.ops(0, 2, RETURN, 0);
        run.stands(0, 0, 0, 0).is(NONE);
        run.looked().is(0);
    }

    private static void howManyWereLookedAt() {
        Due.promise(11, "How many instructions were looked at");
        Run one = new Run().methods(1).ops(0, 200, RETURN, 0);
        one.verify(0).is(0);
        one.looked().is(1);
        Run all = new Run();
        all.method(NONE, NONE, 0, 1).is(0);
        for (int i = 0; i < 198; i += 2) {
            all.ops(0, 1, CONST, 0).ops(0, 1, POP, 0);
        }
        all.ops(0, 1, GOTO, 199).ops(0, 1, RETURN, 0);
        all.verify(0).is(0);
        all.looked().is(200);
    }

    private static void noneInAnEmptyMethod() {
        Run run = new Run().methods(2);
        run.ops(1, 1, RETURN, 0);
        run.verify(1).is(0);
        run.looked().is(1);
        run.verify(0).is(1);
        run.looked().is(0);
    }

    private static void theWrongOneIsLookedAt() {
        Run run = new Run().kinds(1).methods(2);
        run.ops(0, 2, POP, 0);
        run.verify(0).is(1);
        run.looked().is(1);
        run.ops(1, 1, GOTO, 1).ops(1, 1, RETURN, 0);
        run.handler(1, 1, 2, 0, 2).is(0);
        run.verify(1).is(2);
        run.looked().is(2);
    }

    /** 2 comes to 3, which is wrong then, since 1's jump came there with a lower stack: 3 is not looked at. */
    private static void whatIsComeToAndWrongIsNot() {
        Run run = new Run().methods(1);
        run.ops(0, 1, IN, 0).ops(0, 1, IF, 3).ops(0, 1, IN, 0).ops(0, 1, RETURN, 0);
        run.verify(0).is(4);
        run.looked().is(3);
    }

    /** Local 0 is an int before 0 to 2 at first, and UNUSABLE once 3 has come back to 0 with NULL in it. */
    private static void eachTimeCounted() {
        Due.promise(11, "each time counted");
        Run run = new Run().kinds(1);
        run.method(NONE, NONE, 1, 1).is(0);
        run.parameter(0, 0).is(1);
        run.ops(0, 1, GOTO, 1).ops(0, 1, 1, 0).ops(0, 1, STORE, 0).ops(0, 1, GOTO, 0);
        run.verify(0).is(0);
        // 0 to 3, then 0 to 2 again, behind which STORE hides what changed
        run.looked().is(7);
        run.stands(0, 0, 1, 0).is(99);
        run.verify(0).is(0);
        run.looked().is(7);
        Run still = new Run().methods(1).ops(0, 1, GOTO, 0);
        still.verify(0).is(0);
        still.looked().is(1);
    }

    private static void ofTheLastVerify() {
        Due.promise(11, "by the last verify()");
        Run run = new Run().methods(3);
        run.ops(0, 1, CONST, 0).ops(0, 1, RETURN, 0).ops(1, 1, RETURN, 0);
        run.verify(0).is(0);
        run.looked().is(2);
        run.verify(1).is(0);
        run.looked().is(1);
        run.verify(0).is(0);
        run.looked().is(2);
        run.ops(0, 1, RETURN, 0);
        run.parameter(2, 0).is(1);
        run.looked().is(2);
    }

    private static void askingChangesNothing() {
        Due.promise(11, "How many instructions were looked at by the last verify()");
        Run run = new Run().methods(1).ops(0, 1, RETURN, 0);
        run.looked().isRefused(0);
        run.verify(0).is(0);
        run.looked().isRefused(1);
        run.looked().is(1);
        run.stands(0, 0, 0, 0).is(0);
        run.looked().is(1);
    }
}
