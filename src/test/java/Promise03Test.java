/** Promise 3: field. */
public final class Promise03Test {
    private static final int NONE = CodeVerifier.NONE;
    private static final int FULL = CodeVerifier.FULL;

    public static void main(String[] args) {
        theFieldsNumber();
        noSuchClass();
        anotherType();
        classNotThereYet();
        aClassHasItAboveIt();
        aMethodOwnsIt();
        refusedCallsEndNoFields();
        fullWith15();
        fullWithThoseFromAbove();
        noneGoesBeforeFull();
        Due.end();
    }

    private static void theFieldsNumber() {
        Due.promise(3, "A class has one field more: the field's number");
        Run run = new Run().kinds(2);
        run.field(0, 0).is(0);
        run.field(0, 64).is(1);
        run.field(1, 0).is(0);
        run.kind(0).is(2);
        run.kind(0).is(3);
        run.field(2, 0).is(2);
        run.field(2, 0).is(3);
        run.field(3, 0).is(2);
    }

    private static void noSuchClass() {
        Due.promise(3, "NONE, refused, when there is no such class");
        new Run().field(0, 0).isRefused();
        for (int count : new int[] {1, 2, 32}) {
            Run run = new Run().kinds(count);
            run.field(NONE, 0).isRefused();
            for (int c : Edges.outside(count)) {
                run.field(c, 0).isRefused();
            }
            run.field(0, 0).is(0);
            run.field(count - 1, 0).is(count == 1 ? 1 : 0);
        }
    }

    private static void anotherType() {
        Due.promise(3, "NONE, refused, for another type");
        Run run = new Run().kinds(32);
        run.field(31, NONE).isRefused();
        for (int type : Edges.OTHER_TYPES) {
            run.field(31, type).isRefused();
        }
        int number = 0;
        for (int type : Edges.TOLD_TYPES) {
            run.field(31, type).is(number++);
        }
    }

    private static void classNotThereYet() {
        Due.promise(3, "NONE, refused, for one of a class that is not there yet");
        Run run = new Run();
        int number = 0;
        for (int count = 1; count <= 32; count++) {
            run.kind(NONE);
            if (count == 1 || count == 2 || count == 31 || count == 32) {
                run.field(0, count + 1).isRefused();
                run.field(0, 64 + count + 1).isRefused();
                run.field(0, count).is(number++);
                run.field(0, 64 + count).is(number++);
            }
        }
    }

    private static void aClassHasItAboveIt() {
        Due.promise(3, "NONE, refused, when a class has it above it");
        Run run = new Run().kinds(2);
        run.field(0, 0).is(0);
        run.kind(0).is(2);
        run.field(0, 0).isRefused();
        run.field(2, 0).is(1);
        run.kind(2).is(3);
        run.field(0, 0).isRefused();
        run.field(2, 0).isRefused();
        run.field(3, 0).is(2);
        run.field(1, 0).is(0);
    }

    private static void aMethodOwnsIt() {
        Due.promise(3, "NONE, refused, when a method owns it");
        Run run = new Run().kinds(2);
        run.method(NONE, 1, 2, 1).is(0);
        run.parameter(0, 1).is(1);
        run.handler(0, 0, 1, 0, 0).is(0);
        run.op(0, 26, 0).is(0);
        run.field(0, 0).is(0);
        run.method(0, NONE, 1, 0).is(1);
        run.field(0, 0).isRefused();
        run.field(1, 0).is(0);
    }

    private static void refusedCallsEndNoFields() {
        Due.promise(3, "A class has one field more");
        Run run = new Run().kinds(1);
        run.method(0, 99, 1, 0).isRefused();
        run.method(0, NONE, 0, 0).isRefused();
        run.method(0, NONE, 1, 12).isRefused();
        run.kind(1).isRefused();
        run.field(0, 0).is(0);
    }

    private static void fullWith15() {
        Due.promise(3, "FULL when it has 15");
        Run run = new Run().kinds(2);
        for (int f = 0; f < 15; f++) {
            run.field(1, 0).is(f);
        }
        run.field(1, 0).isRefused(FULL);
        run.field(1, 64).isRefused(FULL);
        run.field(0, 0).is(0);
        run.methods(1);
        run.op(0, 27, 1, 14).is(0);
        run.op(0, 27, 1, 15).is(NONE);
    }

    private static void fullWithThoseFromAbove() {
        Run run = new Run().kinds(1).fields(0, 14);
        run.kind(0).is(1);
        run.field(1, 0).is(14);
        run.field(1, 0).isRefused(FULL);
        run.kind(1).is(2);
        run.field(2, 0).isRefused(FULL);
    }

    private static void noneGoesBeforeFull() {
        Run run = new Run().kinds(2).fields(0, 15).fields(1, 15);
        run.field(0, 99).isRefused();
        run.field(0, 3).isRefused();
        run.kind(0).is(2);
        run.field(0, 0).isRefused();
        run.method(1, NONE, 1, 0).is(0);
        run.field(1, 0).isRefused();
    }
}
