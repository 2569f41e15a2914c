/** The boundary cases of WHAT STANDS, MARKED, COMING and of the places that INSTRUCTIONS take and put. */
public final class StandsTest {
    private static final int NONE = CodeVerifier.NONE;
    private static final int CONST = 0;
    private static final int NULL = 1;
    private static final int LOAD = 2;
    private static final int STORE = 3;
    private static final int POP = 4;
    private static final int IF = 19;
    private static final int GOTO = 25;
    private static final int NEW = 26;
    private static final int RETURN = 37;
    private static final int GIVE = 38;
    private static final int THROW = 39;
    private static final int IN = 40;

    /** Each op with its x, the types that it needs (n NULL, i int) and how many places it puts. */
    private static final String[] PLACES = {
        "0 0 :1", "1 0 :1", "2 0 :1", "3 0 i:0", "4 0 i:0", "5 0 i:2", "6 0 ii:2", "7 0 ii:1", "8 0 ii:1", "9 0 ii:1",
        "10 0 ii:1", "11 0 ii:1", "12 0 ii:1", "13 0 ii:1", "14 0 ii:1", "15 0 ii:1", "16 0 ii:1", "17 0 ii:1",
        "18 0 i:1", "19 0 i:0", "20 0 ii:0", "21 0 n:0", "22 0 n:0", "23 0 nn:0", "24 0 nn:0", "25 0 :0", "26 0 :1",
        "27 0 n:1", "28 0 ni:0", "29 0 n:1", "30 0 n:1", "31 0 i:1", "31 1 i:1", "32 0 n:1", "33 0 ni:1", "34 0 nii:0",
        "35 0 ni:1", "35 1 :1", "35 2 iiiiiiii:0", "36 0 ni:1", "37 0 :0", "38 0 i:0", "39 0 n:0", "40 0 :1",
        "41 0 i:0"};

    public static void main(String[] args) {
        parametersAreTheFirstLocals();
        handlersCoverFromTo();
        handlersByNumbers();
        whatStandsBeforeTheCovered();
        theClassAloneOnTheStack();
        noNextOne();
        nothingCameYet();
        theStackIsNotAsHigh();
        twoPlacesMeetAsUnusable();
        localsMayMeetAsUnusable();
        markedWhenSomethingChanges();
        notMarkedWhenNothingChanges();
        theLeastMarked();
        aPlaceTooManyOrNone();
        Due.end();
    }

    private static void parametersAreTheFirstLocals() {
        Due.terms("before instruction 0: parameters as the first locals, the others UNUSABLE; an empty stack");
        for (int locals = 0; locals <= 12; locals++) {
            for (int count = 0; count <= locals && count <= 8; count++) {
                Run run = new Run();
                run.method(NONE, NONE, locals, 12 - locals).is(0);
                run.parameters(0, count).ops(0, 1, RETURN, 0);
                run.verify(0).is(0);
                run.stands(0, 0, 0, 0).is(0);
                run.stands(0, 0, 2, 0).is(NONE);
                for (int k = 0; k <= 12; k++) {
                    run.stands(0, 0, 1, k).is(k < count ? 0 : k < locals ? 99 : NONE);
                }
            }
        }
    }

    /** Only 0 and one more instruction are come to; the handler's place, 1, is come to where one of them is covered. */
    private static void handlersCoverFromTo() {
        Due.terms("For each handler whose from <= it < to");
        for (int it : new int[] {2, 100, 199}) {
            int[][] ranges = {{it, it + 1}, {it - 1, it}, {1, 200}, {1, it}, {it, 200}, {0, 1}};
            boolean[] covers = {true, false, true, false, true, true};
            for (int r = 0; r < ranges.length; r++) {
                Run run = new Run().kinds(1).methods(1);
                run.ops(0, 1, GOTO, it).ops(0, 1, RETURN, 0).ops(0, 198, GOTO, it);
                run.handler(0, ranges[r][0], ranges[r][1], 0, 1).is(0);
                run.verify(0).is(0);
                run.stands(0, it, 0, 0).is(0);
                run.stands(0, 1, 0, 0).is(covers[r] ? 1 : NONE);
            }
        }
    }

    /** Eight handlers over 0: the first and the last one come to 1 and 2; what the seventh comes to is wrong before. */
    private static void handlersByNumbers() {
        Due.terms("For each handler, by numbers");
        Run run = new Run().kinds(2).methods(1);
        run.ops(0, 3, RETURN, 0);
        run.handler(0, 0, 1, 0, 1).is(0);
        for (int h = 1; h < 7; h++) {
            run.handler(0, 5, 6, 0, 1).is(h);
        }
        run.handler(0, 0, 1, 1, 2).is(7);
        run.verify(0).is(0);
        run.stands(0, 1, 2, 0).is(1);
        run.stands(0, 2, 2, 0).is(2);
        Run wrong = new Run().kinds(1).methods(1);
        wrong.ops(0, 3, RETURN, 0);
        wrong.handler(0, 0, 1, 0, 1).is(0);
        wrong.handler(0, 0, 1, 0, 3).is(1);
        wrong.handler(0, 0, 1, 0, 2).is(2);
        wrong.verify(0).is(1);
        wrong.stands(0, 1, 0, 0).is(1);
        wrong.stands(0, 2, 0, 0).is(NONE);
    }

    /** 3 and 5 are covered: local 0 is still UNUSABLE before 3, and so it is on the other way before 5. */
    private static void whatStandsBeforeTheCovered() {
        Due.terms("what stands before it comes to the handler's place");
        for (int covered : new int[] {3, 4, 5}) {
            Run run = new Run().kinds(1);
            run.method(NONE, NONE, 1, 1).is(0);
            run.ops(0, 1, IN, 0).ops(0, 1, IF, 5).ops(0, 1, NULL, 0).ops(0, 1, STORE, 0).ops(0, 3, RETURN, 0);
            run.handler(0, covered, covered + 1, 0, 6).is(0);
            run.verify(0).is(0);
            run.stands(0, 6, 1, 0).is(covered == 4 ? 97 : 99);
        }
    }

    private static void theClassAloneOnTheStack() {
        Due.terms("what stands before it, with the handler's class alone on the stack");
        for (int height : new int[] {0, 1, 11}) {
            Run run = new Run().kinds(32);
            run.method(NONE, NONE, 1, 11).is(0);
            run.parameter(0, 64).is(1);
            run.ops(0, height, CONST, 0).ops(0, 2, RETURN, 0);
            run.handler(0, height, height + 1, 31, height + 1).is(0);
            run.verify(0).is(0);
            run.stands(0, height, 0, 0).is(height);
            run.stands(0, height + 1, 0, 0).is(1);
            run.stands(0, height + 1, 2, 0).is(32);
            run.stands(0, height + 1, 2, 1).is(NONE);
            run.stands(0, height + 1, 1, 0).is(64);
        }
    }

    /** NULL and, as the last instruction, one that takes it or leaves it there. */
    private static void noNextOne() {
        Due.terms("what stands behind it comes to the next one (unless it is GOTO, RETURN, GIVE or THROW; "
                + "it is wrong, when there is none)");
        for (int last : new int[] {1, 2, 198, 199}) {
            for (int op : new int[] {POP, GOTO, RETURN, GIVE, THROW}) {
                Run run = new Run().kinds(1);
                run.method(NONE, op == GIVE ? 1 : NONE, 0, 2).is(0);
                run.ops(0, last - 1, GOTO, last - 1).ops(0, 1, NULL, 0).ops(0, 1, op, last);
                run.verify(0).is(op == POP ? 1 + last : 0);
            }
        }
        Run alone = new Run().methods(2);
        alone.op(0, IN).is(0);
        alone.verify(0).is(1);
        alone.op(1, RETURN).is(0);
        alone.verify(1).is(0);
        Run jump = new Run().methods(1);
        jump.ops(0, 1, IN, 0).ops(0, 1, IF, 0);
        jump.verify(0).is(2);
    }

    private static void nothingCameYet() {
        Due.terms("COMING to an instruction to which nothing came yet: that stands before it, and it is marked");
        Run run = new Run().kinds(1);
        run.method(NONE, NONE, 2, 10).is(0);
        run.parameter(0, 65).is(1);
        run.ops(0, 9, NULL, 0).ops(0, 1, NEW, 0).ops(0, 1, RETURN, 0);
        run.verify(0).is(0);
        run.looked().is(11);
        run.stands(0, 10, 0, 0).is(10);
        run.stands(0, 10, 1, 0).is(65);
        run.stands(0, 10, 1, 1).is(99);
        run.stands(0, 10, 2, 0).is(97);
        run.stands(0, 10, 2, 8).is(97);
        run.stands(0, 10, 2, 9).is(1);
    }

    /** One way comes with so many places to an instruction, then the other with so many. */
    private static void theStackIsNotAsHigh() {
        Due.terms("that one to which it comes is WRONG, when the stack is not as high");
        for (int one = 0; one <= 11; one++) {
            for (int other = Math.max(0, one - 1); other <= Math.min(11, one + 1); other++) {
                Run run = new Run();
                run.method(NONE, NONE, 0, 12).is(0);
                int second = 3 + one;
                int end = second + other;
                run.ops(0, 1, IN, 0).ops(0, 1, IF, second).ops(0, one, CONST, 0).ops(0, 1, GOTO, end);
                run.ops(0, other, CONST, 0).ops(0, 1, RETURN, 0);
                run.verify(0).is(one == other ? 0 : 1 + end);
            }
        }
    }

    /** The lowest and the highest of twelve places. */
    private static void twoPlacesMeetAsUnusable() {
        Due.terms("that one to which it comes is WRONG, when two places of it meet as UNUSABLE");
        for (int apart : new int[] {NONE, 0, 5, 10}) {
            Run run = new Run();
            run.method(NONE, NONE, 0, 12).is(0);
            run.ops(0, 1, IN, 0).ops(0, 1, IF, 14).ops(0, 11, CONST, 0).ops(0, 1, GOTO, 25);
            for (int k = 0; k < 11; k++) {
                run.op(0, k == apart ? NULL : CONST).is(14 + k);
            }
            run.op(0, RETURN).is(25);
            run.verify(0).is(apart == NONE ? 0 : 26);
        }
    }

    private static void localsMayMeetAsUnusable() {
        Due.terms("99 UNUSABLE (of locals)");
        for (int apart : new int[] {0, 5, 10}) {
            Run run = new Run();
            run.method(NONE, NONE, 11, 1).is(0);
            run.ops(0, 1, IN, 0).ops(0, 1, IF, 5).ops(0, 1, NULL, 0).ops(0, 1, STORE, apart).ops(0, 1, GOTO, 7);
            run.ops(0, 1, IN, 0).ops(0, 1, STORE, apart).ops(0, 1, RETURN, 0);
            run.verify(0).is(0);
            run.stands(0, 4, 1, apart).is(97);
            run.stands(0, 7, 1, apart).is(99);
            Run loaded = new Run();
            loaded.method(NONE, NONE, 11, 1).is(0);
            loaded.ops(0, 1, LOAD, apart).ops(0, 1, RETURN, 0);
            loaded.verify(0).is(1);
        }
    }

    /** A loop is gone round once more with another type in the first or last local, or the lowest or highest place. */
    private static void markedWhenSomethingChanges() {
        Due.terms("it is marked, when something changes");
        for (int local : new int[] {0, 10}) {
            Run run = new Run();
            run.method(NONE, NONE, 11, 1).is(0);
            run.ops(0, 1, NULL, 0).ops(0, 1, STORE, local).ops(0, 1, GOTO, 3);
            run.ops(0, 1, IN, 0).ops(0, 1, STORE, local).ops(0, 1, GOTO, 2);
            run.verify(0).is(0);
            // 0 to 5, then 2 to 4 again, behind which STORE hides what changed
            run.looked().is(9);
            run.stands(0, 3, 1, local).is(99);
        }
        for (int place : new int[] {0, 10}) {
            Run run = new Run().kinds(1);
            run.method(NONE, NONE, 0, 12).is(0);
            tellLoopOfPlaces(run, place);
            run.verify(0).is(0);
            // all 36, then 12 and as many POPs as take the changed place
            run.looked().is(36 + 1 + 11 - place);
            run.stands(0, 12, 2, place).is(1);
        }
    }

    /** Eleven NULLs; then they are taken, and as many put in again of which one is an object. */
    private static void tellLoopOfPlaces(Run run, int changed) {
        run.ops(0, 11, NULL, 0).ops(0, 1, GOTO, 12).ops(0, 1, GOTO, 13).ops(0, 11, POP, 0);
        for (int k = 0; k < 11; k++) {
            run.ops(0, 1, k == changed ? NEW : NULL, 0);
        }
        run.ops(0, 1, GOTO, 12);
    }

    private static void notMarkedWhenNothingChanges() {
        Due.terms("it is marked, when something changes (and not otherwise)");
        Run run = new Run();
        run.method(NONE, NONE, 11, 1).is(0);
        run.ops(0, 1, NULL, 0).ops(0, 1, STORE, 10).ops(0, 1, NULL, 0).ops(0, 1, STORE, 10).ops(0, 1, GOTO, 2);
        run.verify(0).is(0);
        run.looked().is(5);
        Run lower = new Run().kinds(1);
        lower.kind(0).is(1);
        lower.method(NONE, NONE, 1, 1).is(0);
        lower.parameter(0, 1).is(1);
        lower.ops(0, 1, NEW, 1).ops(0, 1, STORE, 0).ops(0, 1, GOTO, 0);
        lower.verify(0).is(0);
        lower.looked().is(3);
        lower.stands(0, 0, 1, 0).is(1);
    }

    /** Both 1 and 199 are wrong, and marked by 2; or 198 and 199. */
    private static void theLeastMarked() {
        Due.terms("As long as some instruction is marked, the least one is looked at");
        Run back = new Run().methods(1);
        back.ops(0, 1, GOTO, 196).ops(0, 195, POP, 0);
        back.ops(0, 1, IN, 0).ops(0, 1, IF, 1).ops(0, 2, POP, 0);
        back.verify(0).is(2);
        back.looked().is(4);
        Run forth = new Run().methods(1);
        forth.ops(0, 1, IN, 0).ops(0, 1, IF, 199).ops(0, 198, POP, 0);
        forth.verify(0).is(3);
        forth.looked().is(3);
    }

    private static void aPlaceTooManyOrNone() {
        Due.terms("what they need on the stack, and what they put there; a place too many or none is wrong");
        for (String row : PLACES) {
            String[] parts = row.split("[ :]", -1);
            int op = Integer.parseInt(parts[0]);
            int x = Integer.parseInt(parts[1]);
            String needs = parts[2];
            int puts = Integer.parseInt(parts[3]);
            int most = Math.max(needs.length(), puts);
            boolean isEnd = op == RETURN || op == GIVE || op == THROW;
            Run fitting = tellInstruction(op, x, needs, most);
            fitting.verify(3).is(0);
            fitting.stands(3, needs.length() + 1, 0, 0).is(isEnd ? NONE : puts);
            if (puts > needs.length()) {
                tellInstruction(op, x, needs, puts - 1).verify(3).is(1 + needs.length());
            }
            for (int missing = 1; missing <= needs.length(); missing++) {
                String fewer = needs.substring(missing);
                tellInstruction(op, x, fewer, most).verify(3).is(1 + fewer.length());
            }
        }
    }

    /** Class 0 with a field and a slot; methods with 2, no and 8 parameters; method 3 with the instruction. */
    private static Run tellInstruction(int op, int x, String stack, int places) {
        Run run = new Run().kinds(1).fields(0, 1);
        run.method(0, 0, 2, 0).is(0);
        run.parameter(0, 0).is(2);
        run.slot(0, 0).is(true);
        run.method(NONE, 0, 0, 0).is(1);
        run.method(NONE, NONE, 8, 0).is(2);
        run.parameters(2, 8);
        run.method(NONE, op == GIVE ? 0 : NONE, 1, places).is(3);
        run.parameter(3, 0).is(1);
        for (char type : stack.toCharArray()) {
            run.op(3, type == 'i' ? CONST : NULL);
        }
        int behind = stack.length() + 1;
        run.op(3, op, op >= IF && op <= GOTO ? behind : x).is(behind - 1);
        run.op(3, GOTO, behind).is(behind);
        return run;
    }
}
