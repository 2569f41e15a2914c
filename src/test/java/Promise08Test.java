/** Promise 8: handler. */
public final class Promise08Test {
    private static final int NONE = CodeVerifier.NONE;
    private static final int FULL = CodeVerifier.FULL;

    public static void main(String[] args) {
        itsNumber();
        noSuchMethod();
        noSuchClass();
        fromIsBelowZero();
        fromIsNotBelowTo();
        toIsAbove200();
        thePlaceIsNot0To199();
        fullWith8();
        theEighthCounts();
        noneGoesBeforeFull();
        Due.end();
    }

    private static void itsNumber() {
        Due.promise(8, "A handler behind those of a method: its number");
        Run run = new Run().kinds(1).methods(2);
        run.handler(0, 0, 1, 0, 0).is(0);
        run.handler(0, 0, 1, 0, 0).is(1);
        run.handler(1, 0, 1, 0, 0).is(0);
        run.handler(0, 0, 1, 0, 0).is(2);
    }

    private static void noSuchMethod() {
        Due.promise(8, "NONE, refused, when there is no such method");
        new Run().kinds(1).handler(0, 0, 1, 0, 0).isRefused();
        for (int count : new int[] {1, 2, 64}) {
            Run run = new Run().kinds(1).methods(count);
            run.handler(NONE, 0, 1, 0, 0).isRefused();
            for (int m : Edges.outside(count)) {
                run.handler(m, 0, 1, 0, 0).isRefused();
            }
            run.handler(0, 0, 1, 0, 0).is(0);
            run.handler(count - 1, 0, 1, 0, 0).is(count == 1 ? 1 : 0);
        }
    }

    private static void noSuchClass() {
        Due.promise(8, "NONE, refused, when there is no such class");
        new Run().methods(1).handler(0, 0, 1, 0, 0).isRefused();
        for (int count : new int[] {1, 2, 32}) {
            Run run = new Run().kinds(count).methods(1);
            run.handler(0, 0, 1, NONE, 0).isRefused();
            for (int c : Edges.outside(count)) {
                run.handler(0, 0, 1, c, 0).isRefused();
            }
            run.handler(0, 0, 1, 0, 0).is(0);
            run.handler(0, 0, 1, count - 1, 0).is(1);
        }
    }

    private static void fromIsBelowZero() {
        Due.promise(8, "NONE, refused, when not 0 <= from");
        Run run = new Run().kinds(1).methods(1);
        for (int from : new int[] {-1, -2, Edges.LEAST}) {
            run.handler(0, from, 1, 0, 0).isRefused();
            run.handler(0, from, 200, 0, 0).isRefused();
        }
        run.handler(0, -1, 0, 0, 0).isRefused();
        run.handler(0, 0, 1, 0, 0).is(0);
    }

    private static void fromIsNotBelowTo() {
        Due.promise(8, "NONE, refused, when not from < to");
        Run run = new Run().kinds(1).methods(1);
        run.handler(0, 0, 0, 0, 0).isRefused();
        run.handler(0, 1, 0, 0, 0).isRefused();
        run.handler(0, 5, 5, 0, 0).isRefused();
        run.handler(0, 6, 5, 0, 0).isRefused();
        run.handler(0, 199, 199, 0, 0).isRefused();
        run.handler(0, 200, 200, 0, 0).isRefused();
        run.handler(0, 0, Edges.LEAST, 0, 0).isRefused();
        run.handler(0, Edges.GREATEST, 200, 0, 0).isRefused();
        run.handler(0, 0, 1, 0, 0).is(0);
        run.handler(0, 5, 6, 0, 0).is(1);
        run.handler(0, 199, 200, 0, 0).is(2);
    }

    private static void toIsAbove200() {
        Due.promise(8, "NONE, refused, when not to <= 200");
        Run run = new Run().kinds(1).methods(1);
        run.handler(0, 0, 201, 0, 0).isRefused();
        run.handler(0, 199, 201, 0, 0).isRefused();
        run.handler(0, 200, 201, 0, 0).isRefused();
        run.handler(0, 0, Edges.GREATEST, 0, 0).isRefused();
        run.handler(0, 0, 200, 0, 0).is(0);
        run.handler(0, 0, 199, 0, 0).is(1);
    }

    private static void thePlaceIsNot0To199() {
        Due.promise(8, "NONE, refused, when the place is not 0 .. 199");
        Run run = new Run().kinds(1).methods(1);
        run.handler(0, 0, 1, 0, -1).isRefused();
        for (int place : Edges.outside(200)) {
            run.handler(0, 0, 1, 0, place).isRefused();
        }
        run.handler(0, 0, 1, 0, 0).is(0);
        run.handler(0, 0, 1, 0, 199).is(1);
    }

    private static void fullWith8() {
        Due.promise(8, "FULL when it has 8");
        Run run = new Run().kinds(1).methods(2);
        for (int h = 0; h < 8; h++) {
            run.handler(0, 0, 1, 0, 0).is(h);
        }
        run.handler(0, 0, 1, 0, 0).isRefused(FULL);
        run.handler(1, 0, 1, 0, 0).is(0);
        run.op(0, 37).is(0);
        run.verify(0).is(1);
        run.handler(0, 0, 1, 0, 0).isRefused(FULL);
        run.stands(0, 0, 0, 0).is(0);
    }

    /** The last of eight leads to instruction 1, the ninth, which is refused, to no instruction. */
    private static void theEighthCounts() {
        Run run = new Run().kinds(1).methods(1);
        run.ops(0, 2, 37, 0);
        for (int h = 0; h < 7; h++) {
            run.handler(0, 5, 6, 0, 0).is(h);
        }
        run.verify(0).is(0);
        run.stands(0, 1, 0, 0).is(NONE);
        run.handler(0, 0, 1, 0, 1).is(7);
        run.handler(0, 0, 1, 0, 199).isRefused(FULL);
        run.verify(0).is(0);
        run.stands(0, 1, 0, 0).is(1);
    }

    private static void noneGoesBeforeFull() {
        Run run = new Run().kinds(1).methods(1);
        for (int h = 0; h < 8; h++) {
            run.handler(0, 0, 1, 0, 0);
        }
        run.handler(1, 0, 1, 0, 0).isRefused();
        run.handler(0, 0, 1, 1, 0).isRefused();
        run.handler(0, 1, 1, 0, 0).isRefused();
        run.handler(0, 0, 1, 0, 200).isRefused();
    }
}
