/** Promise 1: a new object. */
public final class Promise01Test {
    private static final int NONE = CodeVerifier.NONE;

    public static void main(String[] args) {
        noClasses();
        noMethods();
        objectsShareNothing();
        Due.end();
    }

    private static void noClasses() {
        Due.promise(1, "No classes");
        Run run = new Run();
        run.kind(0).isRefused();
        run.field(0, 0).isRefused();
        run.method(0, NONE, 1, 1).isRefused();
        run.method(NONE, 1, 1, 1).isRefused();
        run.method(NONE, 65, 1, 1).isRefused();
        run.kind(NONE).is(0);
    }

    private static void noMethods() {
        Due.promise(1, "no methods");
        Run run = new Run();
        run.parameter(0, 0).isRefused();
        run.slot(0, 0).isRefused(0);
        run.op(0, 0).isRefused();
        run.handler(0, 0, 1, 0, 0).isRefused();
        run.verify(0).isRefused();
        run.stands(0, 0, 0, 0).isRefused();
        run.looked().isRefused(0);
        run.method(NONE, NONE, 0, 0).is(0);
    }

    private static void objectsShareNothing() {
        Due.promise(1, "No classes, no methods.");
        Run told = new Run().kinds(32).methods(64);
        told.op(0, 37).is(0);
        told.verify(0).is(0);
        Run made = new Run();
        made.looked().is(0);
        made.verify(0).is(NONE);
        made.kind(NONE).is(0);
        made.method(NONE, NONE, 6, 6).is(0);
        made.op(0, 0).is(0);
        made.verify(0).is(1);
        told.looked().is(1);
        told.stands(0, 0, 0, 0).is(0);
    }
}
