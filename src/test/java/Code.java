import java.util.ArrayList;
import java.util.List;

/** Instructions with their operands, kept until they are told to a method. */
final class Code {
    private static final int IN = 40;
    private static final int NULL = 1;
    private static final int STORE = 3;
    private static final int IF = 19;
    private static final int GOTO = 25;
    private static final int NEW = 26;
    private static final int ROW = 31;

    private final List<int[]> all = new ArrayList<>();

    int size() {
        return all.size();
    }

    Code add(int op, int x) {
        all.add(new int[] {op, x});
        return this;
    }

    Code add(int op) {
        return add(op, 0);
    }

    /** Makes an instruction behind the last one the target of a jump that was added before. */
    Code aimHere(int jump) {
        all.get(jump)[1] = size();
        return this;
    }

    /** Puts a type on the stack; of ANY, an object and a row meet there. */
    Code put(int type) {
        if (type == 98) {
            int start = size();
            return add(IN).add(IF, start + 5).add(IN).add(ROW, 0).add(GOTO, start + 6).add(NEW, 0);
        }
        if (type == 0) {
            return add(IN);
        }
        if (type == 97) {
            return add(NULL);
        }
        return type >= 64 ? add(IN).add(ROW, type - 64) : add(NEW, type - 1);
    }

    /** Leaves a type in local 0, which is UNUSABLE before. */
    Code keep(int type) {
        return type == 99 ? this : put(type).add(STORE, 0);
    }

    void tell(Run run, int m) {
        for (int[] in : all) {
            run.op(m, in[0], in[1]);
        }
    }
}
