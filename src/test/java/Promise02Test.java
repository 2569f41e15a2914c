/** Promise 2: kind. */
public final class Promise02Test {
    private static final int NONE = CodeVerifier.NONE;
    private static final int FULL = CodeVerifier.FULL;
    private static final int GET = 27;
    private static final int SEND = 36;

    public static void main(String[] args) {
        itsNumber();
        withoutUpperClass();
        fieldsAsTheyAreNow();
        slotsAsTheyAreNow();
        noSuchClass();
        full();
        fullWithoutUpperClasses();
        Due.end();
    }

    private static void itsNumber() {
        Due.promise(2, "A class with an upper class: its number");
        Run run = new Run();
        run.kind(NONE).is(0);
        run.kind(0).is(1);
        run.kind(1).is(2);
        run.kind(0).is(3);
    }

    private static void withoutUpperClass() {
        Due.promise(2, "NONE: none");
        Run run = new Run();
        run.kind(NONE).is(0);
        run.fields(0, 2);
        run.kind(NONE).is(1);
        run.field(1, 0).is(0);
        run.field(0, 0).is(2);
    }

    private static void fieldsAsTheyAreNow() {
        Due.promise(2, "its fields as they are now");
        for (int count : new int[] {0, 1, 14, 15}) {
            Run run = new Run().kinds(1).fields(0, count);
            run.kind(0).is(1);
            run.methods(1);
            run.op(0, GET, 1, count).is(NONE);
            run.op(0, GET, 1, count - 1).is(count == 0 ? NONE : 0);
            run.field(1, 0).is(count == 15 ? FULL : count);
        }
        lastFieldHasItsType();
    }

    private static void lastFieldHasItsType() {
        Run run = new Run().kinds(1).fields(0, 14);
        run.field(0, 65).is(14);
        run.kind(0).is(1);
        run.method(NONE, 65, 0, 1).is(0);
        run.op(0, 1).is(0);
        run.op(0, GET, 1, 14).is(1);
        run.op(0, 38).is(2);
        run.verify(0).is(0);
        run.stands(0, 2, 2, 0).is(65);
    }

    private static void slotsAsTheyAreNow() {
        Due.promise(2, "its slots as they are now");
        Run run = new Run().kinds(1);
        run.method(0, NONE, 1, 0).is(0);
        run.slot(0, 0).is(true);
        run.slot(0, 15).is(true);
        run.kind(0).is(1);
        run.kind(1).is(2);
        run.kind(NONE).is(3);
        run.method(2, NONE, 1, 0).is(1);
        run.slot(1, 1).is(true);
        run.op(0, SEND, 1, 0).is(0);
        run.op(0, SEND, 1, 15).is(1);
        run.op(0, SEND, 1, 1).is(NONE);
        run.op(0, SEND, 1, 14).is(NONE);
        run.op(0, SEND, 2, 0).is(2);
        run.op(0, SEND, 2, 15).is(3);
        run.op(0, SEND, 2, 1).is(4);
        run.op(0, SEND, 3, 0).is(NONE);
        run.op(0, SEND, 3, 15).is(NONE);
    }

    private static void noSuchClass() {
        Due.promise(2, "NONE, refused, when there is no such class");
        new Run().kind(0).isRefused();
        for (int count = 1; count < 32; count += 30) {
            Run run = new Run().kinds(count);
            for (int upper : Edges.outside(count)) {
                run.kind(upper).isRefused();
            }
            run.kind(count - 1).is(count);
            run.kind(0).is(count == 31 ? FULL : count + 1);
        }
        Run run = new Run().kinds(32);
        for (int upper : Edges.outside(32)) {
            run.kind(upper).isRefused();
        }
    }

    private static void full() {
        Due.promise(2, "FULL");
        Run run = new Run();
        for (int c = 0; c < 32; c++) {
            run.kind(c - 1).is(c);
        }
        run.kind(NONE).isRefused(FULL);
        run.kind(0).isRefused(FULL);
        run.kind(31).isRefused(FULL);
        run.field(31, 0).is(0);
    }

    /** What is refused makes none of them an upper class. */
    private static void fullWithoutUpperClasses() {
        Run run = new Run().kinds(32);
        run.method(0, NONE, 1, 0).is(0);
        run.kind(0).isRefused(FULL);
        run.kind(1).isRefused(FULL);
        run.kind(31).isRefused(FULL);
        run.slot(0, 15).is(true);
        run.field(1, 0).is(0);
        run.field(31, 0).is(0);
    }
}
