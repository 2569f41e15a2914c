/** Promise 6: slot. */
public final class Promise06Test {
    private static final int NONE = CodeVerifier.NONE;
    private static final int FALSE = 0;
    private static final int SEND = 36;

    public static void main(String[] args) {
        standsFromNowOn();
        ofClassesToldLater();
        inItsOwnersSlotAlone();
        noSuchMethod();
        noSuchSlot();
        noOwner();
        aClassHasThatAboveIt();
        otherParameters();
        anotherLastParameter();
        theFirstParameterMayDiffer();
        anotherTypeGiven();
        oneFromAboveIsInIt();
        Due.end();
    }

    private static void standsFromNowOn() {
        Due.promise(6, "A method stands in a slot of its owner from now on: true");
        Run run = new Run().kinds(1);
        run.method(0, 64, 2, 2).is(0);
        run.parameter(0, 0).is(2);
        run.op(0, SEND, 0, 5).is(NONE);
        run.slot(0, 5).is(true);
        run.op(0, SEND, 0, 5).is(0);
        run.slot(0, 5).is(true);
        run.slot(0, 6).is(true);
        run.op(0, SEND, 0, 6).is(1);
        run.op(0, SEND, 0, 7).is(NONE);
        run.op(0, SEND, 0, 4).is(NONE);
    }

    private static void ofClassesToldLater() {
        Due.promise(6, "and of classes under it that are told later");
        Run run = new Run().kinds(2);
        run.method(0, NONE, 1, 1).is(0);
        run.slot(0, 0).is(true);
        run.slot(0, 15).is(true);
        run.kind(0).is(2);
        run.kind(2).is(3);
        run.op(0, SEND, 2, 0).is(0);
        run.op(0, SEND, 2, 15).is(1);
        run.op(0, SEND, 3, 0).is(2);
        run.op(0, SEND, 3, 15).is(3);
        run.op(0, SEND, 1, 0).is(NONE);
    }

    private static void inItsOwnersSlotAlone() {
        Due.promise(6, "in a slot of its owner");
        Run run = new Run().kinds(1);
        run.kind(0).is(1);
        run.kind(0).is(2);
        run.method(1, NONE, 1, 1).is(0);
        run.slot(0, 0).is(true);
        run.op(0, SEND, 1, 0).is(0);
        run.op(0, SEND, 0, 0).is(NONE);
        run.op(0, SEND, 2, 0).is(NONE);
    }

    private static void noSuchMethod() {
        Due.promise(6, "False, refused, when there is no such method");
        new Run().slot(0, 0).isRefused(FALSE);
        for (int count : new int[] {1, 2, 64}) {
            Run run = new Run().kinds(1);
            for (int m = 0; m < count; m++) {
                run.method(0, NONE, 1, 1);
            }
            run.slot(NONE, 0).isRefused(FALSE);
            for (int m : Edges.outside(count)) {
                run.slot(m, 0).isRefused(FALSE);
            }
            run.slot(0, 0).is(true);
            run.slot(count - 1, 0).is(true);
        }
    }

    private static void noSuchSlot() {
        Due.promise(6, "False, refused, when there is no such slot");
        Run run = new Run().kinds(1);
        run.method(0, NONE, 1, 1).is(0);
        run.slot(0, NONE).isRefused(FALSE);
        for (int s : Edges.outside(16)) {
            run.slot(0, s).isRefused(FALSE);
        }
        for (int s = 0; s < 16; s++) {
            run.slot(0, s).is(true);
        }
        run.op(0, SEND, 0, 0).is(0);
        run.op(0, SEND, 0, 15).is(1);
    }

    private static void noOwner() {
        Due.promise(6, "False, refused, when it has no owner");
        Run run = new Run().kinds(1);
        run.method(NONE, NONE, 1, 1).is(0);
        run.parameter(0, 1).is(1);
        run.slot(0, 0).isRefused(FALSE);
        run.slot(0, 15).isRefused(FALSE);
        run.method(0, NONE, 1, 1).is(1);
        run.slot(1, 0).is(true);
        run.slot(0, 0).isRefused(FALSE);
    }

    private static void aClassHasThatAboveIt() {
        Due.promise(6, "False, refused, when a class has that above it already");
        Run run = new Run().kinds(2);
        run.method(0, NONE, 1, 1).is(0);
        run.method(1, NONE, 1, 1).is(1);
        run.slot(0, 0).is(true);
        run.kind(0).is(2);
        run.slot(0, 1).isRefused(FALSE);
        run.slot(0, 0).isRefused(FALSE);
        run.slot(1, 1).is(true);
        run.method(2, NONE, 1, 1).is(2);
        run.slot(2, 1).is(true);
        run.kind(2).is(3);
        run.slot(0, 1).isRefused(FALSE);
        run.slot(2, 15).isRefused(FALSE);
    }

    private static void otherParameters() {
        Due.promise(6, "False, refused, when there is one in it whose parameters behind the first one are others");
        Run run = new Run().kinds(1);
        for (int m = 0; m < 4; m++) {
            run.method(0, NONE, 4, 0).is(m);
        }
        run.parameter(0, 1).is(2);
        run.slot(0, 0).is(true);
        run.slot(1, 0).isRefused(FALSE);
        run.parameter(1, 0).is(2);
        run.slot(1, 0).isRefused(FALSE);
        run.parameters(2, 2);
        run.slot(2, 0).isRefused(FALSE);
        run.parameter(3, 1).is(2);
        run.slot(3, 0).is(true);
        run.parameter(2, 0).is(4);
        run.slot(2, 1).is(true);
        run.slot(1, 1).isRefused(FALSE);
        run.slot(1, 2).is(true);
    }

    /** The last of 8 is the only one that is another; a ninth of them can't be. */
    private static void anotherLastParameter() {
        Run run = new Run().kinds(1);
        run.method(0, NONE, 8, 0).is(0);
        run.method(0, NONE, 8, 0).is(1);
        run.method(0, NONE, 12, 0).is(2);
        run.parameters(0, 7).parameters(1, 6).parameters(2, 7);
        run.slot(0, 0).is(true);
        run.slot(1, 0).isRefused(FALSE);
        run.parameter(1, 64).is(8);
        run.slot(1, 0).isRefused(FALSE);
        run.slot(2, 0).is(true);
    }

    private static void theFirstParameterMayDiffer() {
        Due.promise(6, "parameters behind the first one");
        Run run = new Run().kinds(1);
        run.method(0, NONE, 2, 0).is(0);
        run.parameter(0, 0).is(2);
        run.slot(0, 0).is(true);
        run.kind(0).is(1);
        run.method(1, NONE, 2, 0).is(1);
        run.slot(1, 0).isRefused(FALSE);
        run.parameter(1, 0).is(2);
        run.slot(1, 0).is(true);
        run.op(1, SEND, 0, 0).is(0);
        run.op(1, SEND, 1, 0).is(1);
    }

    private static void anotherTypeGiven() {
        Due.promise(6, "False, refused, when there is one in it whose type given is another");
        Run run = new Run().kinds(1);
        int[] given = {NONE, 0, 1, 64, 65};
        for (int type : given) {
            run.method(0, type, 1, 1);
        }
        for (int m = 0; m < given.length; m++) {
            run.slot(m, m).is(true);
            for (int other = 0; other < given.length; other++) {
                if (other != m) {
                    run.slot(other, m).isRefused(FALSE);
                }
            }
        }
        run.method(0, 64, 3, 3).is(given.length);
        run.slot(given.length, 3).is(true);
    }

    private static void oneFromAboveIsInIt() {
        Due.promise(6, "False, refused, when there is one in it (from above)");
        Run run = new Run().kinds(1);
        run.method(0, 0, 1, 1).is(0);
        run.slot(0, 15).is(true);
        run.kind(0).is(1);
        run.kind(1).is(2);
        run.method(2, NONE, 1, 1).is(1);
        run.method(2, 0, 1, 1).is(2);
        run.slot(1, 15).isRefused(FALSE);
        run.slot(2, 15).is(true);
        run.slot(1, 14).is(true);
        run.op(1, SEND, 1, 15).is(0);
        run.op(1, SEND, 1, 14).is(NONE);
    }
}
