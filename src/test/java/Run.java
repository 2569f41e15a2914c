import java.util.ArrayList;
import java.util.List;

/** A run of calls on a new object, within the 512 that the document promises answers for. */
final class Run {
    static final int MOST_CALLS = 512;

    private final CodeVerifier v = new CodeVerifier();
    private final List<Call> calls = new ArrayList<>();

    /** The answer to the run's last call. */
    final class Answer {
        private final Call call;
        private final int got;

        private Answer(Call call, int got) {
            this.call = call;
            this.got = got;
        }

        int is(int due) {
            Due.is(call.toString(), got, due);
            return got;
        }

        void is(boolean due) {
            is(due ? 1 : 0);
        }

        /** The answer is as due, and the call has left the object as one to which it was never made. */
        void isRefused(int due) {
            is(due);
            List<Call> before = calls.subList(0, calls.size() - 1);
            Probe.findsAlike("after " + call, madeOf(calls), madeOf(before));
        }

        void isRefused() {
            isRefused(CodeVerifier.NONE);
        }
    }

    private static CodeVerifier madeOf(List<Call> calls) {
        check(calls.size() + Probe.MOST_CALLS);
        CodeVerifier made = new CodeVerifier();
        for (Call call : calls) {
            call.on(made);
        }
        return made;
    }

    private static void check(int count) {
        if (count > MOST_CALLS) {
            throw new IllegalStateException("a test of more than " + MOST_CALLS + " calls");
        }
    }

    private Answer answer(String name, int... with) {
        Call call = new Call(name, with);
        calls.add(call);
        check(calls.size());
        return new Answer(call, call.on(v));
    }

    int callsMade() {
        return calls.size();
    }

    Answer kind(int upper) {
        return answer("kind", upper);
    }

    Answer field(int c, int type) {
        return answer("field", c, type);
    }

    Answer method(int owner, int gives, int locals, int stack) {
        return answer("method", owner, gives, locals, stack);
    }

    Answer parameter(int m, int type) {
        return answer("parameter", m, type);
    }

    Answer slot(int m, int s) {
        return answer("slot", m, s);
    }

    Answer op(int m, int op, int x, int y) {
        return answer("op", m, op, x, y);
    }

    /** An instruction whose second operand is not named. */
    Answer op(int m, int op, int x) {
        return op(m, op, x, 0);
    }

    /** An instruction without operands. */
    Answer op(int m, int op) {
        return op(m, op, 0, 0);
    }

    Answer handler(int m, int from, int to, int c, int place) {
        return answer("handler", m, from, to, c, place);
    }

    Answer verify(int m) {
        return answer("verify", m);
    }

    Answer stands(int m, int i, int what, int k) {
        return answer("stands", m, i, what, k);
    }

    Answer looked() {
        return answer("looked");
    }

    /** So many classes, each without an upper class. */
    Run kinds(int count) {
        for (int c = 0; c < count; c++) {
            kind(CodeVerifier.NONE);
        }
        return this;
    }

    /** So many ints as fields of a class. */
    Run fields(int c, int count) {
        for (int f = 0; f < count; f++) {
            field(c, 0);
        }
        return this;
    }

    /** So many methods without an owner that give nothing. */
    Run methods(int count) {
        for (int m = 0; m < count; m++) {
            method(CodeVerifier.NONE, CodeVerifier.NONE, 6, 6);
        }
        return this;
    }

    /** So many ints as parameters of a method. */
    Run parameters(int m, int count) {
        for (int p = 0; p < count; p++) {
            parameter(m, 0);
        }
        return this;
    }

    /** So many times the same instruction. */
    Run ops(int m, int count, int op, int x) {
        for (int i = 0; i < count; i++) {
            op(m, op, x);
        }
        return this;
    }
}
