/** Promises 9 to 11: verify, stands, looked; what meets, what is marked, where it is wrong. */
public final class VerifyTest {
    private static final int NONE = CodeVerifier.NONE;
    private static final int CONST = 0;
    private static final int NULL = 1;
    private static final int LOAD = 2;
    private static final int STORE = 3;
    private static final int POP = 4;
    private static final int IF = 19;
    private static final int IFNULL = 21;
    private static final int GOTO = 25;
    private static final int NEW = 26;
    private static final int CALL = 35;
    private static final int RETURN = 37;
    private static final int GIVE = 38;
    private static final int THROW = 39;
    private static final int IN = 40;

    public static void main(String[] args) {
        withoutInstructions();
        whatStandsFirst();
        meetings();
        wrongMeetingsOnTheStack();
        wrongHeights();
        whatMetBeforeAWrongPlaceStays();
        wrongAtWhatJumps();
        nextComesBeforeTarget();
        handlersComeBeforeTheInstruction();
        handlersCoverFromTo();
        handlersWithoutPlace();
        handlersNeedAPlaceOnTheStack();
        handlerOfItsOwnPlace();
        nothingBehindEnds();
        loopsAreLookedAtAgain();
        leastMarkedFirst();
        standsAnswersNone();
        standsIsKeptForEachMethod();
        standsEndsWithMoreTold();
        verifiesAsTold();
        lookedIsOfTheLast();
        Due.end();
    }

    /** Class 0, classes 1 and 2 under it, class 3 under 1, class 4 alone. */
    private static CodeVerifier world() {
        CodeVerifier v = new CodeVerifier();
        v.kind(NONE);
        v.kind(0);
        v.kind(0);
        v.kind(1);
        v.kind(NONE);
        return v;
    }

    private static void ops(CodeVerifier v, int m, int... opsWithX) {
        for (int i = 0; i + 1 < opsWithX.length; i += 2) {
            v.op(m, opsWithX[i], opsWithX[i + 1], 0);
        }
    }

    private static void withoutInstructions() {
        Due.promise(9, "a method without instructions at 0; NONE when there is no such method");
        CodeVerifier v = world();
        Due.is("no method", v.verify(0), NONE);
        v.method(NONE, NONE, 1, 1);
        Due.is("no such method", v.verify(1), NONE);
        Due.is("method NONE", v.verify(NONE), NONE);
        Due.is("method 64", v.verify(64), NONE);
        Due.is("no instructions", v.verify(0), 1);
        Due.is("none looked at", v.looked(), 0);
        Due.is("no instruction 0", v.stands(0, 0, 0, 0), NONE);
        Due.is("no instruction 0", v.stands(0, 0, 1, 0), NONE);
    }

    private static void whatStandsFirst() {
        Due.terms("WHAT STANDS before instruction 0");
        CodeVerifier v = world();
        int m = v.method(2, NONE, 4, 1);
        v.parameter(m, 64);
        v.parameter(m, 0);
        ops(v, m, RETURN, 0);
        Due.is("verify", v.verify(m), 0);
        Due.is("height", v.stands(m, 0, 0, 0), 0);
        Due.is("owner", v.stands(m, 0, 1, 0), 3);
        Due.is("second", v.stands(m, 0, 1, 1), 64);
        Due.is("third", v.stands(m, 0, 1, 2), 0);
        Due.is("no parameter", v.stands(m, 0, 1, 3), 99);
        Due.is("looked", v.looked(), 1);
    }

    /** Two ways that leave two types in local 0 and come to one instruction; its type there. */
    private static int meeting(int one, int other) {
        CodeVerifier v = world();
        int m = v.method(NONE, NONE, 2, 2);
        ops(v, m, IN, 0, IF, 5);
        ops(v, m, op(one), operand(one), STORE, 0, GOTO, 7);
        ops(v, m, op(other), operand(other), STORE, 0, RETURN, 0);
        Due.is("verify", v.verify(m), 0);
        return v.stands(m, 7, 1, 0);
    }

    private static int op(int type) {
        return type == 0 ? CONST : type == 97 ? NULL : NEW;
    }

    private static int operand(int type) {
        return type - 1;
    }

    private static void meets(int one, int other, int want) {
        Due.is("meeting of " + one + " and " + other, meeting(one, other), want);
        Due.is("meeting of " + other + " and " + one, meeting(other, one), want);
    }

    private static void meetings() {
        Due.terms("MEETING");
        meets(0, 0, 0);
        meets(97, 97, 97);
        meets(2, 2, 2);
        meets(97, 3, 3);
        meets(2, 3, 1);
        meets(4, 3, 1);
        meets(4, 2, 2);
        meets(1, 4, 1);
        meets(1, 5, 98);
        meets(4, 5, 98);
        meets(0, 1, 99);
        meets(0, 97, 99);
        parameterMeetings();
    }

    private static void meetsAsParameters(int one, int other, int want) {
        CodeVerifier v = world();
        int m = v.method(NONE, NONE, 3, 1);
        v.parameter(m, one);
        v.parameter(m, other);
        ops(v, m, IN, 0, IF, 5, LOAD, 0, STORE, 2, GOTO, 7, LOAD, 1, STORE, 2, RETURN, 0);
        Due.is("verify", v.verify(m), 0);
        Due.is("meeting of " + one + " and " + other, v.stands(m, 7, 1, 2), want);
    }

    private static void parameterMeetings() {
        Due.terms("MEETING (of parameters)");
        meetsAsParameters(64, 64, 64);
        meetsAsParameters(65, 65, 65);
        meetsAsParameters(64, 65, 98);
        meetsAsParameters(66, 65, 98);
        meetsAsParameters(66, 67, 98);
        meetsAsParameters(1, 65, 98);
        meetsAsParameters(64, 1, 98);
        meetsAsParameters(0, 64, 99);
        meetsAsParameters(65, 0, 99);
        anyAndNullMeet();
        unusableMeets();
    }

    /** NULL, then a row, then an object come to instruction 2: NULL, the row, ANY, and NULL no more. */
    private static void anyAndNullMeet() {
        Due.terms("of NULL and another reference the other one");
        CodeVerifier v = world();
        int m = v.method(NONE, NONE, 3, 1);
        v.parameter(m, 64);
        v.parameter(m, 1);
        ops(v, m, NULL, 0, STORE, 2);
        ops(v, m, IN, 0, IF, 7, LOAD, 0, STORE, 2, GOTO, 2);
        ops(v, m, IN, 0, IF, 12, LOAD, 1, STORE, 2, GOTO, 2);
        ops(v, m, NULL, 0, STORE, 2, GOTO, 2);
        Due.is("verify", v.verify(m), 0);
        Due.is("before 2", v.stands(m, 2, 1, 2), 98);
        Due.is("before 12", v.stands(m, 12, 1, 2), 98);
        Due.is("before 14", v.stands(m, 14, 1, 2), 97);
    }

    private static void unusableMeets() {
        Due.terms("otherwise UNUSABLE");
        CodeVerifier v = world();
        int m = v.method(NONE, NONE, 2, 1);
        ops(v, m, IN, 0, IF, 4, CONST, 0, STORE, 0, NULL, 0, STORE, 1, GOTO, 4);
        Due.is("verify", v.verify(m), 0);
        Due.is("an int and UNUSABLE", v.stands(m, 4, 1, 0), 99);
        Due.is("NULL and UNUSABLE", v.stands(m, 4, 1, 1), 99);
        Due.is("NULL on one way", v.stands(m, 6, 1, 1), 97);
    }

    private static void wrongMeetingsOnTheStack() {
        Due.terms("WRONG, when two places of it meet as UNUSABLE");
        CodeVerifier v = world();
        int m = v.method(NONE, NONE, 0, 2);
        ops(v, m, IN, 0, IF, 4, CONST, 0, GOTO, 5, NULL, 0, POP, 0, RETURN, 0);
        Due.is("an int and NULL", v.verify(m), 6);
        Due.is("looked", v.looked(), 5);
        Due.is("the int still stands there", v.stands(m, 5, 2, 0), 0);
        int any = v.method(NONE, NONE, 0, 2);
        ops(v, any, IN, 0, IF, 4, NEW, 0, GOTO, 5, NEW, 4, POP, 0, RETURN, 0);
        Due.is("two classes apart are ANY", v.verify(any), 0);
        Due.is("ANY", v.stands(any, 5, 2, 0), 98);
    }

    private static void wrongHeights() {
        Due.terms("WRONG, when the stack is not as high");
        CodeVerifier v = world();
        int m = v.method(NONE, NONE, 0, 2);
        ops(v, m, CONST, 0, GOTO, 0);
        Due.is("higher", v.verify(m), 1);
        Due.is("looked", v.looked(), 2);
        Due.is("height as it came first", v.stands(m, 0, 0, 0), 0);
        int lower = v.method(NONE, NONE, 0, 2);
        ops(v, lower, CONST, 0, CONST, 0, IF, 1, RETURN, 0);
        Due.is("as high", v.verify(lower), 0);
        int less = v.method(NONE, NONE, 0, 2);
        ops(v, less, CONST, 0, CONST, 0, POP, 0, POP, 0, GOTO, 1);
        Due.is("lower", v.verify(less), 2);
    }

    /** Local 0 and place 0 meet before place 1 is wrong; local 1 is untouched where the heights differ. */
    private static void whatMetBeforeAWrongPlaceStays() {
        Due.terms("all locals and places of the stack meet, from the first ones on");
        CodeVerifier v = world();
        int m = v.method(NONE, NONE, 1, 3);
        v.parameter(m, 2);
        ops(v, m, NEW, 1, CONST, 0, CONST, 0, IF, 5, GOTO, 5);
        ops(v, m, POP, 0, POP, 0, NEW, 2, STORE, 0, NEW, 2, NULL, 0, GOTO, 5);
        Due.is("an int and NULL on top", v.verify(m), 6);
        Due.is("local 0 met", v.stands(m, 5, 1, 0), 1);
        Due.is("place 0 met", v.stands(m, 5, 2, 0), 1);
        Due.is("place 1 did not", v.stands(m, 5, 2, 1), 0);
        int heights = v.method(NONE, NONE, 1, 3);
        v.parameter(heights, 2);
        ops(v, heights, NEW, 2, STORE, 0, NULL, 0, GOTO, 0);
        Due.is("heights differ", v.verify(heights), 1);
        Due.is("nothing met", v.stands(heights, 0, 1, 0), 2);
    }

    private static void wrongAtWhatJumps() {
        Due.promise(9, "A target that is no instruction is wrong at what jumps there");
        CodeVerifier v = world();
        int m = v.method(NONE, NONE, 0, 1);
        ops(v, m, CONST, 0, IF, 3, RETURN, 0);
        Due.is("a target behind the last", v.verify(m), 2);
        Due.is("the next one was come to", v.stands(m, 2, 0, 0), 0);
        ops(v, m, RETURN, 0);
        Due.is("a target that is there now", v.verify(m), 0);
        int unreached = v.method(NONE, NONE, 0, 1);
        ops(v, unreached, GOTO, 2, GOTO, 199, RETURN, 0);
        Due.is("one that is not come to", v.verify(unreached), 0);
        Due.is("nothing came", v.stands(unreached, 1, 0, 0), NONE);
        Due.is("looked", v.looked(), 2);
        int last = v.method(NONE, NONE, 0, 1);
        ops(v, last, CONST, 0, POP, 0);
        Due.is("no next one", v.verify(last), 2);
        int jump = v.method(NONE, NONE, 0, 1);
        ops(v, jump, CONST, 0, IF, 0);
        Due.is("no next one of a jump", v.verify(jump), 2);
    }

    /** IF's next one is wrong before its target, which is none, is. */
    private static void nextComesBeforeTarget() {
        Due.terms("what stands behind it comes to the next one, then, of a jump, to its target");
        CodeVerifier v = world();
        int m = v.method(NONE, NONE, 0, 3);
        ops(v, m, IN, 0, IF, 5, IN, 0, IN, 0, IF, 199, RETURN, 0);
        Due.is("the next one first", v.verify(m), 6);
        int target = v.method(NONE, NONE, 0, 3);
        ops(v, target, IN, 0, IF, 5, IN, 0, IN, 0, IF, 0, RETURN, 0);
        Due.is("the next one before a target that is wrong too", v.verify(target), 6);
        int handled = v.method(NONE, NONE, 0, 3);
        ops(v, handled, POP, 0, RETURN, 0);
        v.handler(handled, 0, 1, 0, 1);
        Due.is("wrong itself", v.verify(handled), 1);
        Due.is("its handler was come to", v.stands(handled, 1, 2, 0), 1);
    }

    private static void handlersComeBeforeTheInstruction() {
        Due.terms("For each handler, by numbers; then the instruction is done");
        CodeVerifier v = world();
        int m = v.method(NONE, NONE, 1, 2);
        ops(v, m, CONST, 0, STORE, 0, RETURN, 0, THROW, 0);
        v.handler(m, 1, 2, 3, 3);
        Due.is("verify", v.verify(m), 0);
        Due.is("the class alone", v.stands(m, 3, 0, 0), 1);
        Due.is("the class", v.stands(m, 3, 2, 0), 4);
        Due.is("the local before STORE", v.stands(m, 3, 1, 0), 99);
        v.handler(m, 1, 3, 2, 3);
        Due.is("verify", v.verify(m), 0);
        Due.is("two classes meet", v.stands(m, 3, 2, 0), 1);
        Due.is("looked: 0 1 2 3", v.looked(), 4);
        int order = v.method(NONE, NONE, 1, 2);
        ops(v, order, CONST, 0, CONST, 0, GOTO, 0);
        v.handler(order, 0, 3, 0, 2);
        Due.is("the handler came to 2 with one, 1 comes with two", v.verify(order), 3);
        Due.is("looked", v.looked(), 2);
        int places = v.method(NONE, NONE, 0, 2);
        ops(v, places, IN, 0, POP, 0, RETURN, 0);
        v.handler(places, 0, 1, 0, 2);
        v.handler(places, 0, 1, 0, 199);
        v.handler(places, 0, 1, 0, 0);
        Due.is("by numbers: no place 199 before place 0 is wrong", v.verify(places), 1);
        Due.is("the first handler came", v.stands(places, 2, 2, 0), 1);
        Due.is("the instruction was not done", v.stands(places, 1, 0, 0), NONE);
    }

    private static void handlersCoverFromTo() {
        Due.terms("whose from <= it < to");
        for (int from = 0; from < 3; from++) {
            CodeVerifier v = world();
            int m = v.method(NONE, NONE, 1, 1);
            ops(v, m, IN, 0, STORE, 0, RETURN, 0, THROW, 0);
            v.handler(m, from, from + 1, 4, 3);
            Due.is("verify", v.verify(m), 0);
            Due.is("local where " + from + " is covered", v.stands(m, 3, 1, 0), from == 2 ? 0 : 99);
        }
        CodeVerifier v = world();
        int m = v.method(NONE, NONE, 0, 1);
        ops(v, m, RETURN, 0, THROW, 0);
        v.handler(m, 1, 200, 0, 1);
        Due.is("0 is not covered", v.verify(m), 0);
        Due.is("nothing came", v.stands(m, 1, 0, 0), NONE);
    }

    private static void handlersWithoutPlace() {
        Due.promise(9, "A place of a handler that is no instruction is wrong at what is covered by it");
        CodeVerifier v = world();
        int m = v.method(NONE, NONE, 0, 1);
        ops(v, m, CONST, 0, POP, 0, RETURN, 0);
        v.handler(m, 1, 2, 0, 3);
        Due.is("a place that is none", v.verify(m), 2);
        Due.is("looked", v.looked(), 2);
        int unreached = v.method(NONE, NONE, 0, 1);
        ops(v, unreached, RETURN, 0, POP, 0);
        v.handler(unreached, 1, 200, 0, 3);
        Due.is("what it covers is not come to", v.verify(unreached), 0);
    }

    private static void handlersNeedAPlaceOnTheStack() {
        Due.terms("with the handler's class alone on the stack");
        CodeVerifier v = world();
        int m = v.method(NONE, NONE, 12, 0);
        ops(v, m, GOTO, 1, RETURN, 0);
        Due.is("without a handler", v.verify(m), 0);
        v.handler(m, 1, 2, 0, 0);
        Due.is("no place for the class", v.verify(m), 2);
    }

    /** What stands before 1 has met the handler's class when 1 is done. */
    private static void handlerOfItsOwnPlace() {
        Due.terms("Then the instruction is done");
        CodeVerifier v = world();
        int m = v.method(NONE, 2, 0, 1);
        ops(v, m, NEW, 1, GIVE, 0);
        Due.is("fits", v.verify(m), 0);
        v.handler(m, 1, 2, 0, 1);
        Due.is("the class above does not", v.verify(m), 2);
        Due.is("looked", v.looked(), 2);
        Due.is("met", v.stands(m, 1, 2, 0), 1);
    }

    private static void nothingBehindEnds() {
        Due.terms("unless it is GOTO, RETURN, GIVE or THROW");
        int[] ends = {GOTO, RETURN, GIVE, THROW};
        for (int op : ends) {
            CodeVerifier v = world();
            int m = v.method(NONE, op == GIVE ? 1 : NONE, 0, 1);
            ops(v, m, NEW, 0, op, 1, CONST, 0);
            Due.is("op " + op + " ends", v.verify(m), 0);
            Due.is("nothing behind it", v.stands(m, 2, 0, 0), NONE);
        }
    }

    /** Local 0 climbs from class 3 to class 1 to class 0 around one loop. */
    private static void loopsAreLookedAtAgain() {
        Due.promise(11, "each time counted");
        CodeVerifier v = world();
        int m = v.method(NONE, NONE, 1, 1);
        ops(v, m, NEW, 3, STORE, 0, LOAD, 0, IFNULL, 7);
        ops(v, m, NEW, 2, STORE, 0, GOTO, 2, RETURN, 0);
        Due.is("verify", v.verify(m), 0);
        Due.is("met before 2", v.stands(m, 2, 1, 0), 1);
        Due.is("met before 7", v.stands(m, 7, 1, 0), 1);
        Due.is("before 1", v.stands(m, 1, 2, 0), 4);
        // 0 to 6; 2 to 5 again, behind which STORE hides the change; 7
        Due.is("looked", v.looked(), 12);
        Due.is("once more", v.verify(m), 0);
        Due.is("looked once more", v.looked(), 12);
    }

    /** 1 marks 2 and 5; 5 is looked at only when what 2 leads to has been. */
    private static void leastMarkedFirst() {
        Due.terms("As long as some instruction is marked, the least one is");
        CodeVerifier v = world();
        int m = v.method(NONE, NONE, 0, 1);
        ops(v, m, IN, 0, IF, 5, IN, 0, IF, 6, RETURN, 0, POP, 0, POP, 0);
        Due.is("5 before 6", v.verify(m), 6);
        Due.is("looked", v.looked(), 6);
        int back = v.method(NONE, NONE, 0, 1);
        ops(v, back, GOTO, 3, POP, 0, RETURN, 0, IN, 0, IF, 1, POP, 0);
        Due.is("1 before 5", v.verify(back), 2);
        Due.is("looked", v.looked(), 4);
    }

    private static void standsAnswersNone() {
        Due.promise(10, "NONE when nothing came there, there is none, it was not verified");
        CodeVerifier v = world();
        int m = v.method(NONE, NONE, 2, 3);
        v.parameter(m, 1);
        ops(v, m, CONST, 0, RETURN, 0, RETURN, 0);
        Due.is("not verified", v.stands(m, 0, 0, 0), NONE);
        v.verify(m);
        Due.is("height, whatever k", v.stands(m, 1, 0, Integer.MIN_VALUE), 1);
        Due.is("local 0", v.stands(m, 1, 1, 0), 1);
        Due.is("local 1", v.stands(m, 1, 1, 1), 99);
        Due.is("local 2", v.stands(m, 1, 1, 2), NONE);
        Due.is("local -1", v.stands(m, 1, 1, -1), NONE);
        Due.is("greatest local", v.stands(m, 1, 1, Integer.MAX_VALUE), NONE);
        Due.is("place 0", v.stands(m, 1, 2, 0), 0);
        Due.is("place 1", v.stands(m, 1, 2, 1), NONE);
        Due.is("place -1", v.stands(m, 1, 2, -1), NONE);
        Due.is("greatest place", v.stands(m, 1, 2, Integer.MAX_VALUE), NONE);
        Due.is("what 3", v.stands(m, 1, 3, 0), NONE);
        Due.is("what -1", v.stands(m, 1, -1, 0), NONE);
        Due.is("nothing came", v.stands(m, 2, 0, 0), NONE);
        Due.is("nothing came, local", v.stands(m, 2, 1, 0), NONE);
        Due.is("instruction 3", v.stands(m, 3, 0, 0), NONE);
        Due.is("instruction -1", v.stands(m, -1, 0, 0), NONE);
        Due.is("instruction 200", v.stands(m, 200, 0, 0), NONE);
        Due.is("method 1", v.stands(m + 1, 0, 0, 0), NONE);
        Due.is("method NONE", v.stands(NONE, 0, 0, 0), NONE);
    }

    private static void standsIsKeptForEachMethod() {
        Due.promise(10, "What the last verify() of a method found");
        CodeVerifier v = world();
        int one = v.method(NONE, NONE, 1, 1);
        int other = v.method(NONE, NONE, 1, 1);
        ops(v, one, CONST, 0, RETURN, 0);
        ops(v, other, NULL, 0, RETURN, 0);
        v.verify(one);
        v.verify(other);
        Due.is("the first one's", v.stands(one, 1, 2, 0), 0);
        Due.is("the second one's", v.stands(other, 1, 2, 0), 97);
        v.op(other, RETURN, 0, 0);
        Due.is("told more", v.stands(other, 1, 2, 0), NONE);
        Due.is("the other one's stays", v.stands(one, 1, 2, 0), 0);
    }

    private static void standsEndsWithMoreTold() {
        Due.promise(10, "NONE when told a parameter, instruction or handler more since");
        CodeVerifier v = world();
        int m = v.method(NONE, NONE, 1, 1);
        ops(v, m, CONST, 0, RETURN, 0);
        v.verify(m);
        Due.is("refused op", v.op(m, LOAD, 1, 0), NONE);
        Due.is("refused handler", v.handler(m, 0, 0, 0, 0), NONE);
        Due.is("refused parameter", v.parameter(m, 0), NONE);
        Due.is("stands", v.stands(m, 1, 0, 0), 1);
        v.handler(m, 1, 2, 0, 1);
        Due.is("a handler more", v.stands(m, 1, 0, 0), NONE);
        Due.is("verify", v.verify(m), 2);
        Due.is("stands", v.stands(m, 1, 0, 0), 1);
        v.op(m, RETURN, 0, 0);
        Due.is("an instruction more", v.stands(m, 1, 0, 0), NONE);
        v.kind(NONE);
        v.verify(m);
        v.kind(NONE);
        v.method(NONE, NONE, 0, 0);
        Due.is("other things told", v.stands(m, 1, 0, 0), 1);
    }

    /** A called method that has a parameter more by then needs it. */
    private static void verifiesAsTold() {
        Due.promise(9, "Verifies a method as it is told");
        CodeVerifier v = world();
        int called = v.method(NONE, NONE, 2, 0);
        int m = v.method(NONE, NONE, 0, 2);
        ops(v, m, CALL, called, RETURN, 0);
        Due.is("no parameters", v.verify(m), 0);
        v.parameter(called, 0);
        Due.is("found by the last verify", v.stands(m, 1, 0, 0), 0);
        Due.is("one parameter", v.verify(m), 1);
        Due.is("nothing came", v.stands(m, 1, 0, 0), NONE);
        Due.is("before it", v.stands(m, 0, 0, 0), 0);
    }

    private static void lookedIsOfTheLast() {
        Due.promise(11, "How many instructions were looked at by the last verify()");
        CodeVerifier v = world();
        int m = v.method(NONE, NONE, 0, 2);
        ops(v, m, CONST, 0, RETURN, 0);
        Due.is("before", v.looked(), 0);
        v.verify(m);
        Due.is("two", v.looked(), 2);
        Due.is("asked again", v.looked(), 2);
        int other = v.method(NONE, NONE, 0, 2);
        ops(v, other, POP, 0);
        v.verify(other);
        Due.is("the wrong one is looked at", v.looked(), 1);
        v.op(other, POP, 0, 0);
        Due.is("told more", v.looked(), 1);
        v.verify(m);
        Due.is("two again", v.looked(), 2);
        int empty = v.method(NONE, NONE, 0, 0);
        v.verify(empty);
        Due.is("none", v.looked(), 0);
    }
}
