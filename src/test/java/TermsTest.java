/** The boundary cases of "What it is" and "Terms": how many there may be, and which types can be told. */
public final class TermsTest {
    private static final int NONE = CodeVerifier.NONE;
    private static final int FULL = CodeVerifier.FULL;

    public static void main(String[] args) {
        theLastOf512Calls();
        classesAreAtMost32();
        fieldsAreAtMost15();
        thoseOfTheUpperClassFirst();
        slotsAre0To15();
        methodsAreAtMost64();
        parametersAreAtMost8();
        theFirstIsTheOwnersClass();
        localsAndPlacesAre12Together();
        instructionsAreAtMost200();
        handlersAreAtMost8();
        typesThatCanBeTold();
        Due.end();
    }

    /** An object that is told as much as there may be of all, and asked until its last call. */
    private static void theLastOf512Calls() {
        Due.terms("An object is used for at most 512 calls after it has been made");
        Run run = new Run().kinds(32).fields(31, 15);
        for (int m = 0; m < 64; m++) {
            run.method(m == 0 ? 31 : NONE, NONE, 8, 4).is(m);
        }
        run.parameters(0, 7);
        for (int s = 0; s < 16; s++) {
            run.slot(0, s).is(true);
        }
        run.ops(0, 200, 25, 199);
        for (int h = 0; h < 8; h++) {
            run.handler(0, 100, 200, 31, 199 - h).is(h);
        }
        while (run.callsMade() < Run.MOST_CALLS - 3) {
            run.stands(0, 0, 0, 0).is(NONE);
        }
        run.verify(0).is(200);
        run.stands(0, 199, 1, 0).is(32);
        run.looked().is(2);
    }

    private static void classesAreAtMost32() {
        Due.terms("CLASSES are numbered from 0, at most 32, each with an upper class or none");
        Run run = new Run();
        for (int c = 0; c < 32; c++) {
            run.kind(c % 2 == 0 ? NONE : c - 1).is(c);
        }
        run.kind(NONE).isRefused(FULL);
        run.kind(31).isRefused(FULL);
    }

    private static void fieldsAreAtMost15() {
        Due.terms("FIELDS (at most 15)");
        Run run = new Run().kinds(1);
        for (int f = 0; f < 15; f++) {
            run.field(0, 64).is(f);
        }
        run.field(0, 64).isRefused(FULL);
    }

    private static void thoseOfTheUpperClassFirst() {
        Due.terms("those of the upper class first");
        Run run = new Run().kinds(1);
        run.field(0, 64).is(0);
        run.kind(0).is(1);
        run.field(1, 65).is(1);
        run.method(NONE, 64, 0, 1).is(0);
        run.method(NONE, 65, 0, 1).is(1);
        for (int m = 0; m < 2; m++) {
            run.op(m, 1).is(0);
            run.op(m, 27, 1, m).is(1);
            run.op(m, 38).is(2);
            run.verify(m).is(0);
            run.stands(m, 2, 2, 0).is(64 + m);
        }
    }

    private static void slotsAre0To15() {
        Due.terms("SLOTS (0 .. 15) that have methods");
        Run run = new Run().kinds(1);
        run.method(0, NONE, 1, 1).is(0);
        run.slot(0, -1).isRefused(0);
        run.slot(0, 16).isRefused(0);
        run.slot(0, 0).is(true);
        run.slot(0, 15).is(true);
    }

    private static void methodsAreAtMost64() {
        Due.terms("METHODS are numbered from 0, at most 64");
        Run run = new Run();
        for (int m = 0; m < 64; m++) {
            run.method(NONE, NONE, 0, 0).is(m);
        }
        run.method(NONE, NONE, 0, 0).isRefused(FULL);
    }

    private static void parametersAreAtMost8() {
        Due.terms("PARAMETERS (at most 8)");
        Run run = new Run();
        run.method(NONE, NONE, 12, 0).is(0);
        for (int p = 1; p <= 8; p++) {
            run.parameter(0, 0).is(p);
        }
        run.parameter(0, 0).isRefused();
        run.op(0, 37).is(0);
        run.verify(0).is(0);
        run.stands(0, 0, 1, 7).is(0);
        run.stands(0, 0, 1, 8).is(99);
    }

    private static void theFirstIsTheOwnersClass() {
        Due.terms("the first of them the owner's class when it has an owner");
        for (int owner : new int[] {0, 31}) {
            Run run = new Run().kinds(32);
            run.method(owner, NONE, 12, 0).is(0);
            for (int p = 2; p <= 8; p++) {
                run.parameter(0, 0).is(p);
            }
            run.parameter(0, 0).isRefused();
            run.op(0, 37).is(0);
            run.verify(0).is(0);
            run.stands(0, 0, 1, 0).is(1 + owner);
            run.stands(0, 0, 1, 1).is(0);
        }
    }

    private static void localsAndPlacesAre12Together() {
        Due.terms("locals and places of a stack (12 together)");
        for (int locals = 0; locals <= 12; locals++) {
            Run run = new Run();
            int places = 12 - locals;
            run.method(NONE, NONE, locals, places + 1).isRefused();
            run.method(NONE, NONE, locals + 1, places).isRefused();
            run.method(NONE, NONE, locals, places).is(0);
            run.ops(0, places, 0, 0).ops(0, 1, 25, places);
            run.verify(0).is(0);
            run.stands(0, places, 0, 0).is(places);
            run.stands(0, places, 1, locals).is(NONE);
            run.stands(0, places, 1, locals - 1).is(locals == 0 ? NONE : 99);
            run.method(NONE, NONE, locals, places).is(1);
            run.ops(1, places + 1, 0, 0);
            run.verify(1).is(1 + places);
        }
    }

    private static void instructionsAreAtMost200() {
        Due.terms("INSTRUCTIONS numbered from 0 (at most 200)");
        Run run = new Run().methods(1);
        for (int i = 0; i < 200; i++) {
            run.op(0, 40).is(i);
        }
        run.op(0, 40).isRefused(FULL);
    }

    private static void handlersAreAtMost8() {
        Due.terms("HANDLERS (at most 8)");
        Run run = new Run().kinds(1).methods(1);
        for (int h = 0; h < 8; h++) {
            run.handler(0, 0, 200, 0, 199).is(h);
        }
        run.handler(0, 0, 200, 0, 199).isRefused(FULL);
    }

    private static void typesThatCanBeTold() {
        Due.terms("0 int; 1 .. 32 class 0 .. 31; 64 a row of ints; 65 .. 96 a row of class 0 .. 31");
        for (int count : new int[] {0, 1, 2, 31, 32}) {
            for (int type = -3; type <= 130; type++) {
                boolean isTold = type == 0 || type == 64 || (type >= 1 && type <= count)
                        || (type >= 65 && type <= 64 + count);
                Run run = new Run().kinds(count);
                run.method(NONE, type, 1, 1).is(isTold || type == NONE ? 0 : NONE);
                run.methods(1);
                run.parameter(0, type).is(isTold ? 1 : NONE);
                run.field(0, type).is(isTold && count > 0 ? 0 : NONE);
            }
        }
    }
}
