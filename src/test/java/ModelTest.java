import java.util.ArrayList;
import java.util.List;
import java.util.Random;

/** Runs of calls, always the same ones, on the class and on the model beside it. */
public final class ModelTest {
    private static final int RUNS = 3000;
    private static final int CALLS = 512;
    private static final int ASKED_AT_END = 60;
    private static final int TO_STATEMENT = -1000;
    private static final int LOCALS = 5;

    private static int verified = 0;
    private static int fitting = 0;
    private static int longest = 0;

    private final Random random;
    private final CodeVerifier v = new CodeVerifier();
    private final Model model = new Model();
    /** Told the same, but verified in between to see what would fit next. */
    private final Model scout = new Model();
    private final String run;
    private int calls = 0;

    private ModelTest(int number) {
        random = new Random(number);
        run = "run " + number + ", call ";
    }

    public static void main(String[] args) {
        for (int number = 0; number < RUNS; number++) {
            new ModelTest(number).go(number % 4);
        }
        System.out.println(verified + " verified, " + fitting + " fit, at most " + longest + " looked at");
        Due.is("enough of them fit", fitting > 5000, true);
        Due.is("some go around often", longest > 300, true);
        Due.end();
    }

    private void go(int way) {
        if (way == 0) {
            anyCalls();
            return;
        }
        tellWorld();
        while (calls < CALLS - ASKED_AT_END) {
            int m = way == 1 ? tellStraightMethod() : tellBranchingMethod();
            verify(m);
            looked();
            ask();
        }
        while (calls < CALLS) {
            ask();
        }
    }

    private int below(int bound) {
        return random.nextInt(bound);
    }

    private int oneOf(int... values) {
        return values[below(values.length)];
    }

    private int someType() {
        int count = Math.max(1, model.kindCount());
        return below(12) == 0 ? oneOf(-2, -1, 33, 63, 97, 98, 99, count + 1, 65 + count)
                : oneOf(0, 1 + below(count), 1 + below(count), 64, 65 + below(count));
    }

    private int someKind() {
        return below(15) == 0 ? oneOf(-2, -1, 31, 32, model.kindCount()) : thatKind();
    }

    private int thatKind() {
        return below(Math.max(1, model.kindCount()));
    }

    private int someMethod() {
        return below(15) == 0 ? oneOf(-1, 63, 64, model.methodCount()) : below(Math.max(1, model.methodCount()));
    }

    private void tellWorld() {
        int count = 2 + below(10);
        for (int c = 0; c < count; c++) {
            kind(below(5) == 0 ? -1 : c - 1 - below(2));
            for (int f = below(3); f > 0; f--) {
                field(c, someType());
            }
            if (below(3) == 0) {
                int m = method(c, oneOf(-1, 0, someType()), 1 + below(3), 1 + below(4));
                for (int p = below(3); p > 0; p--) {
                    parameter(m, someType());
                }
                slot(m, below(3));
            }
        }
    }

    private int tellStraightMethod() {
        int m = method(oneOf(-1, someKind()), oneOf(-1, -1, someType()), 2 + below(4), 2 + below(5));
        for (int p = below(5); p > 0 && m >= 0; p--) {
            parameter(m, someType());
        }
        if (m >= 0) {
            tellStraightCode(m);
        }
        return m;
    }

    private int tellBranchingMethod() {
        int m = method(oneOf(-1, thatKind()), -1, LOCALS, 2 + below(3));
        for (int p = below(8) == 0 ? below(LOCALS) : LOCALS; p > 0 && m >= 0; p--) {
            parameter(m, below(20) == 0 ? someType() : oneOf(1, 1, 65) + thatKind());
        }
        if (m >= 0) {
            tellStatements(m);
        }
        return m;
    }

    /** Instructions that fit one behind the other, if a few throws find one; jumps go to the next one. */
    private void tellStraightCode(int m) {
        int length = 5 + below(40);
        for (int i = 0; i < length && calls < CALLS - ASKED_AT_END; i++) {
            scout.verify(m);
            int op = 0;
            int x = 0;
            int y = 0;
            for (int attempt = 0; attempt < 40; attempt++) {
                op = i == length - 1 ? 37 + below(3) : below(42);
                boolean isJump = op >= 19 && op <= 25;
                x = isJump ? scout.codeSize(m) + 1 : op == 35 ? someMethod() : op <= 3 ? below(6) : someKind();
                y = below(3);
                boolean isEnd = op >= 37 && op <= 39;
                if ((!isEnd || i == length - 1) && scout.wouldFit(m, op, x, y)) {
                    break;
                }
            }
            op(m, op, x, y);
        }
    }

    /** Statements with an empty stack before and behind them, among which jumps go anywhere. */
    private void tellStatements(int m) {
        List<int[]> code = new ArrayList<>();
        List<Integer> starts = new ArrayList<>();
        List<Integer> catches = new ArrayList<>();
        int count = 4 + below(60);
        for (int s = 0; s < count; s++) {
            starts.add(code.size());
            statement(code, catches);
        }
        starts.add(code.size());
        add(code, oneOf(37, 25), TO_STATEMENT);
        for (int[] in : code) {
            boolean isOther = below(300) == 0;
            int x = in[1] == TO_STATEMENT ? starts.get(below(starts.size())) : in[1];
            op(m, isOther ? below(42) : in[0], x, in[2]);
        }
        for (int place : catches) {
            int from = below(code.size());
            handler(m, from, Math.min(200, from + 1 + below(8)), thatKind(), place);
        }
    }

    private static void add(List<int[]> code, int op, int x) {
        code.add(new int[] {op, x, 0});
    }

    private void statement(List<int[]> code, List<Integer> catches) {
        int local = below(LOCALS);
        switch (below(12)) {
            case 0:
                add(code, 1, 0);
                add(code, 3, local);
                break;
            case 1:
            case 2:
                add(code, 26, thatKind());
                add(code, 3, local);
                break;
            case 3:
                add(code, 40, 0);
                add(code, 31, below(3));
                add(code, 3, local);
                break;
            case 4:
                add(code, 2, local);
                add(code, 3, below(LOCALS));
                break;
            case 5:
            case 6:
                add(code, 40, 0);
                add(code, 19, TO_STATEMENT);
                break;
            case 7:
                add(code, 2, local);
                add(code, oneOf(21, 22), TO_STATEMENT);
                break;
            case 8:
                add(code, 25, TO_STATEMENT);
                break;
            case 9:
                catches.add(code.size() + 1);
                add(code, 25, TO_STATEMENT);
                add(code, 3, local);
                break;
            case 10:
                twoWaysOnTheStack(code, local);
                break;
            default:
                add(code, 2, local);
                add(code, 30, thatKind());
                add(code, 3, below(LOCALS));
                break;
        }
    }

    private void twoWaysOnTheStack(List<int[]> code, int local) {
        add(code, oneOf(1, 26), thatKind());
        add(code, 40, 0);
        add(code, 19, code.size() + 3);
        add(code, 4, 0);
        add(code, below(12) == 0 ? 40 : 26, thatKind());
        add(code, 3, local);
    }

    private void anyCalls() {
        while (calls < CALLS) {
            switch (below(9)) {
                case 0:
                    kind(someKind());
                    break;
                case 1:
                    field(someKind(), someType());
                    break;
                case 2:
                    method(oneOf(-1, someKind()), oneOf(-1, someType()), below(14) - 1, below(8) - 1);
                    break;
                case 3:
                    parameter(someMethod(), someType());
                    break;
                case 4:
                    slot(someMethod(), below(18) - 1);
                    break;
                case 5:
                    op(someMethod(), below(44) - 1, below(6) - 1, below(6) - 1);
                    break;
                case 6:
                    handler(someMethod(), below(6) - 1, below(8), someKind(), below(5));
                    break;
                case 7:
                    verify(someMethod());
                    break;
                default:
                    ask();
                    break;
            }
        }
    }

    private void ask() {
        int m = someMethod();
        int size = Math.max(1, model.codeSize(m));
        int what = below(20);
        if (what == 0) {
            looked();
        } else if (what == 1) {
            verify(m);
        } else {
            stands(m, below(size + 1), below(3), below(6));
        }
    }

    private int due(String call, int got, int want) {
        calls++;
        Due.is(run + calls + ": " + call, got, want);
        return want;
    }

    private void kind(int upper) {
        scout.kind(upper);
        due("kind(" + upper + ")", v.kind(upper), model.kind(upper));
    }

    private void field(int c, int type) {
        scout.field(c, type);
        due("field(" + c + ", " + type + ")", v.field(c, type), model.field(c, type));
    }

    private int method(int owner, int gives, int locals, int stack) {
        String call = "method(" + owner + ", " + gives + ", " + locals + ", " + stack + ")";
        scout.method(owner, gives, locals, stack);
        return due(call, v.method(owner, gives, locals, stack), model.method(owner, gives, locals, stack));
    }

    private void parameter(int m, int type) {
        scout.parameter(m, type);
        due("parameter(" + m + ", " + type + ")", v.parameter(m, type), model.parameter(m, type));
    }

    private void slot(int m, int s) {
        scout.slot(m, s);
        due("slot(" + m + ", " + s + ")", v.slot(m, s) ? 1 : 0, model.slot(m, s) ? 1 : 0);
    }

    private void op(int m, int op, int x, int y) {
        String call = "op(" + m + ", " + op + ", " + x + ", " + y + ")";
        due(call, v.op(m, op, x, y), model.op(m, op, x, y));
        // Only now, when scout has what was verified before no more.
        scout.op(m, op, x, y);
    }

    private void handler(int m, int from, int to, int c, int place) {
        String call = "handler(" + m + ", " + from + ", " + to + ", " + c + ", " + place + ")";
        due(call, v.handler(m, from, to, c, place), model.handler(m, from, to, c, place));
    }

    private void verify(int m) {
        verified++;
        int answer = due("verify(" + m + ")", v.verify(m), model.verify(m));
        fitting += answer == 0 ? 1 : 0;
        longest = Math.max(longest, model.looked());
    }

    private void stands(int m, int i, int what, int k) {
        String call = "stands(" + m + ", " + i + ", " + what + ", " + k + ")";
        due(call, v.stands(m, i, what, k), model.stands(m, i, what, k));
    }

    private void looked() {
        due("looked()", v.looked(), model.looked());
    }
}
