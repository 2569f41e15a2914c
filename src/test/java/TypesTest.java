/** The boundary cases of GOES INTO and MEETING, and which types are references. */
public final class TypesTest {
    private static final int NONE = CodeVerifier.NONE;
    private static final int POP = 4;
    private static final int IF = 19;
    private static final int IFNULL = 21;
    private static final int GOTO = 25;
    private static final int NEW = 26;
    private static final int GET = 27;
    private static final int CAST = 30;
    private static final int ROW = 31;
    private static final int AT = 33;
    private static final int CALL = 35;
    private static final int RETURN = 37;
    private static final int GIVE = 38;
    private static final int THROW = 39;
    private static final int IN = 40;

    /** Class 0; classes 1 and 2 under it; class 3 under 1; class 4 alone; rows of ints, of 0 and of 1; NULL, ANY. */
    private static final int[] TYPES = {0, 1, 2, 3, 4, 5, 64, 65, 66, 97, 98, 99};
    private static final int[][] MET = {
        {0, 99, 99, 99, 99, 99, 99, 99, 99, 99, 99, 99},
        {99, 1, 1, 1, 1, 98, 98, 98, 98, 1, 98, 99},
        {99, 1, 2, 1, 2, 98, 98, 98, 98, 2, 98, 99},
        {99, 1, 1, 3, 1, 98, 98, 98, 98, 3, 98, 99},
        {99, 1, 2, 1, 4, 98, 98, 98, 98, 4, 98, 99},
        {99, 98, 98, 98, 98, 5, 98, 98, 98, 5, 98, 99},
        {99, 98, 98, 98, 98, 98, 64, 98, 98, 64, 98, 99},
        {99, 98, 98, 98, 98, 98, 98, 65, 98, 65, 98, 99},
        {99, 98, 98, 98, 98, 98, 98, 98, 66, 66, 98, 99},
        {99, 1, 2, 3, 4, 5, 64, 65, 66, 97, 98, 99},
        {99, 98, 98, 98, 98, 98, 98, 98, 98, 98, 98, 99},
        {99, 99, 99, 99, 99, 99, 99, 99, 99, 99, 99, 99}};
    /** Of the types that can stand on the stack, which go into those that can be told. */
    private static final String[] INTO = {
        "x........", ".x.......", ".xx......", ".x.x.....", ".xx.x....", ".....x...", "......x..", ".......x.",
        "........x", ".xxxxxxxx", "........."};

    public static void main(String[] args) {
        references();
        goesInto();
        goesIntoOneAboveIt();
        localsMeet();
        placesOfTheStackMeet();
        theLowestOfTwoClasses();
        theFirstAndTheLastClass();
        thrownIsAClassOrNull();
        Due.end();
    }

    private static Run world() {
        Run run = new Run().kinds(1);
        run.kind(0).is(1);
        run.kind(0).is(2);
        run.kind(1).is(3);
        run.kind(NONE).is(4);
        return run;
    }

    /** Classes 0 to 31, each under the one before it. */
    private static Run chain() {
        Run run = new Run();
        for (int c = 0; c < 32; c++) {
            run.kind(c - 1).is(c);
        }
        return run;
    }

    private static void references() {
        Due.terms("All but 0 and 99 are references");
        for (int type : new int[] {0, 1, 32, 64, 65, 96, 97, 98}) {
            Run run = new Run().kinds(32).methods(1);
            Code code = new Code().put(type);
            int at = code.size();
            code.add(IFNULL, at + 1).add(RETURN).tell(run, 0);
            run.verify(0).is(type == 0 ? 1 + at : 0);
        }
        Run unusable = new Run().methods(1);
        unusable.op(0, 2, 5).is(0);
        unusable.op(0, RETURN).is(1);
        unusable.verify(0).is(1);
        unusable.stands(0, 0, 1, 5).is(99);
    }

    private static void goesInto() {
        Due.terms("A type GOES INTO another one that is the same; NULL into each reference; a class into one above it");
        for (int from = 0; from < INTO.length; from++) {
            for (int into = 0; into < INTO[from].length(); into++) {
                Run run = world();
                run.method(NONE, TYPES[into], 0, 2).is(0);
                Code code = new Code().put(TYPES[from]);
                int at = code.size();
                code.add(GIVE).tell(run, 0);
                run.verify(0).is(INTO[from].charAt(into) == 'x' ? 0 : 1 + at);
                run.stands(0, at, 2, 0).is(TYPES[from]);
            }
        }
    }

    private static void goesIntoOneAboveIt() {
        Due.terms("a class into one above it");
        int[] ends = {0, 1, 15, 30, 31};
        for (int from : ends) {
            for (int into : ends) {
                Run run = chain();
                run.method(NONE, 1 + into, 0, 1).is(0);
                new Code().put(1 + from).add(GIVE).tell(run, 0);
                run.verify(0).is(into <= from ? 0 : 2);
            }
        }
    }

    /** Two ways that leave a type each in local 0 or on the stack; the instruction at which they come together. */
    private static int tellTwoWays(Run run, boolean inLocal, int one, int other) {
        Code code = new Code().add(IN).add(IF);
        leave(code, inLocal, one).add(GOTO);
        int behindOne = code.size() - 1;
        code.aimHere(1);
        leave(code, inLocal, other);
        int end = code.size();
        code.aimHere(behindOne).add(RETURN).tell(run, 0);
        return end;
    }

    private static Code leave(Code code, boolean inLocal, int type) {
        return inLocal ? code.keep(type) : code.put(type);
    }

    private static void localsMeet() {
        Due.terms("MEETING (of locals)");
        for (int one = 0; one < TYPES.length; one++) {
            for (int other = 0; other < TYPES.length; other++) {
                Run run = world();
                run.method(NONE, NONE, 1, 1).is(0);
                int end = tellTwoWays(run, true, TYPES[one], TYPES[other]);
                run.verify(0).is(0);
                run.stands(0, end, 1, 0).is(MET[one][other]);
            }
        }
    }

    private static void placesOfTheStackMeet() {
        Due.terms("MEETING (of places of the stack); WRONG when two of them meet as UNUSABLE");
        int count = TYPES.length - 1;
        for (int one = 0; one < count; one++) {
            for (int other = 0; other < count; other++) {
                Run run = world();
                run.method(NONE, NONE, 0, 2).is(0);
                int end = tellTwoWays(run, false, TYPES[one], TYPES[other]);
                int met = MET[one][other];
                run.verify(0).is(met == 99 ? 1 + end : 0);
                if (met != 99) {
                    run.stands(0, end, 2, 0).is(met);
                }
            }
        }
    }

    private static void theLowestOfTwoClasses() {
        Due.terms("of two classes the lowest one that is above, or is, both, ANY when there is none");
        int[] ends = {0, 1, 15, 30, 31};
        for (int one : ends) {
            for (int other : ends) {
                Run run = chain();
                run.method(NONE, NONE, 0, 2).is(0);
                int end = tellTwoWays(run, false, 1 + one, 1 + other);
                run.verify(0).is(0);
                run.stands(0, end, 2, 0).is(1 + Math.min(one, other));
                Run apart = new Run().kinds(32);
                apart.method(NONE, NONE, 0, 2).is(0);
                tellTwoWays(apart, false, 1 + one, 1 + other);
                apart.verify(0).is(0);
                apart.stands(0, end, 2, 0).is(one == other ? 1 + one : 98);
            }
        }
    }

    /** What instructions put that name the first or the last class. */
    private static void theFirstAndTheLastClass() {
        Due.terms("1 .. 32 class 0 .. 31; 65 .. 96 a row of class 0 .. 31");
        for (int c : new int[] {0, 31}) {
            Run run = new Run().kinds(32);
            run.field(c, 65 + c).is(0);
            run.method(NONE, 1 + c, 0, 0).is(0);
            run.method(NONE, NONE, 0, 2).is(1);
            run.ops(1, 1, NEW, c).ops(1, 1, GET, c).ops(1, 1, IN, 0).ops(1, 1, AT, 0).ops(1, 1, POP, 0);
            run.ops(1, 1, IN, 0).ops(1, 1, ROW, 1 + c).ops(1, 1, CAST, c).ops(1, 1, POP, 0);
            run.ops(1, 1, CALL, 0).ops(1, 1, RETURN, 0);
            run.verify(1).is(0);
            run.stands(1, 1, 2, 0).is(1 + c);
            run.stands(1, 2, 2, 0).is(65 + c);
            run.stands(1, 4, 2, 0).is(1 + c);
            run.stands(1, 7, 2, 0).is(65 + c);
            run.stands(1, 8, 2, 0).is(1 + c);
            run.stands(1, 10, 2, 0).is(1 + c);
        }
    }

    private static void thrownIsAClassOrNull() {
        Due.terms("39 THROW: a class or NULL");
        for (int type : new int[] {0, 1, 32, 64, 65, 96, 97, 98}) {
            Run run = new Run().kinds(32).methods(1);
            Code code = new Code().put(type);
            int at = code.size();
            code.add(THROW).tell(run, 0);
            run.verify(0).is(type == 1 || type == 32 || type == 97 ? 0 : 1 + at);
        }
    }
}
