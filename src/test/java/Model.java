import java.util.ArrayList;
import java.util.Arrays;
import java.util.List;
import java.util.TreeSet;

/** The document once more, as plainly as it goes and without the class's ways of holding things. */
final class Model {
    private static final int NONE = -1;
    private static final int FULL = -2;

    private static final class Kind {
        int upper;
        List<Integer> fields = new ArrayList<>();
        int[] slots = new int[16];
        boolean isClosed;
        boolean isOwner;
    }

    private static final class Frame {
        List<Integer> locals = new ArrayList<>();
        List<Integer> stack = new ArrayList<>();

        Frame copy() {
            Frame f = new Frame();
            f.locals.addAll(locals);
            f.stack.addAll(stack);
            return f;
        }
    }

    private static final class Method {
        int owner;
        int gives;
        int locals;
        int stack;
        List<Integer> parameters = new ArrayList<>();
        List<int[]> code = new ArrayList<>();
        List<int[]> handlers = new ArrayList<>();
        boolean stood;
        Frame[] found;
    }

    private static final class WrongAt extends Exception {
        private static final long serialVersionUID = 1;
        final int place;

        WrongAt(int place) {
            this.place = place;
        }
    }

    private final List<Kind> kinds = new ArrayList<>();
    private final List<Method> methods = new ArrayList<>();
    private int looks = 0;

    private boolean isKind(int c) {
        return c >= 0 && c < kinds.size();
    }

    private boolean isMethod(int m) {
        return m >= 0 && m < methods.size();
    }

    private boolean isType(int t) {
        return t == 0 || t == 64 || (t >= 1 && t <= 32 && isKind(t - 1)) || (t >= 65 && t <= 96 && isKind(t - 65));
    }

    int kind(int upper) {
        if (upper != NONE && !isKind(upper)) {
            return NONE;
        }
        if (kinds.size() == 32) {
            return FULL;
        }
        Kind k = new Kind();
        k.upper = upper;
        Arrays.fill(k.slots, NONE);
        if (upper != NONE) {
            Kind above = kinds.get(upper);
            above.isClosed = true;
            k.fields.addAll(above.fields);
            k.slots = above.slots.clone();
        }
        kinds.add(k);
        return kinds.size() - 1;
    }

    int field(int c, int type) {
        if (!isKind(c) || !isType(type) || kinds.get(c).isClosed || kinds.get(c).isOwner) {
            return NONE;
        }
        List<Integer> fields = kinds.get(c).fields;
        if (fields.size() == 15) {
            return FULL;
        }
        fields.add(type);
        return fields.size() - 1;
    }

    int method(int owner, int gives, int locals, int stack) {
        if ((owner != NONE && !isKind(owner)) || (gives != NONE && !isType(gives))) {
            return NONE;
        }
        if (locals < 0 || stack < 0 || (long) locals + stack > 12 || (owner != NONE && locals == 0)) {
            return NONE;
        }
        if (methods.size() == 64) {
            return FULL;
        }
        Method m = new Method();
        m.owner = owner;
        m.gives = gives;
        m.locals = locals;
        m.stack = stack;
        if (owner != NONE) {
            m.parameters.add(1 + owner);
            kinds.get(owner).isOwner = true;
        }
        methods.add(m);
        return methods.size() - 1;
    }

    int parameter(int m, int type) {
        if (!isMethod(m) || !isType(type)) {
            return NONE;
        }
        Method it = methods.get(m);
        int count = it.parameters.size();
        if (count == it.locals || count == 8 || !it.code.isEmpty() || it.stood) {
            return NONE;
        }
        it.parameters.add(type);
        it.found = null;
        return count + 1;
    }

    boolean slot(int m, int s) {
        if (!isMethod(m) || s < 0 || s > 15) {
            return false;
        }
        Method it = methods.get(m);
        if (it.owner == NONE || kinds.get(it.owner).isClosed) {
            return false;
        }
        int[] slots = kinds.get(it.owner).slots;
        if (slots[s] != NONE) {
            Method there = methods.get(slots[s]);
            List<Integer> mine = it.parameters.subList(1, it.parameters.size());
            List<Integer> others = there.parameters.subList(1, there.parameters.size());
            if (it.gives != there.gives || !mine.equals(others)) {
                return false;
            }
        }
        slots[s] = m;
        it.stood = true;
        return true;
    }

    private boolean isField(int c, int f) {
        return isKind(c) && f >= 0 && f < kinds.get(c).fields.size();
    }

    private boolean isFilled(int c, int s) {
        return isKind(c) && s >= 0 && s < 16 && kinds.get(c).slots[s] != NONE;
    }

    private boolean areOperands(Method it, int op, int x, int y) {
        boolean isNone = op < 0 || op > 41;
        isNone |= (op == 2 || op == 3) && (x < 0 || x >= it.locals);
        isNone |= op >= 19 && op <= 25 && (x < 0 || x > 199);
        isNone |= (op == 26 || op == 29 || op == 30) && !isKind(x);
        isNone |= (op == 27 || op == 28) && !isField(x, y);
        isNone |= op == 31 && (x < 0 || x > kinds.size());
        isNone |= op == 35 && !isMethod(x);
        isNone |= op == 36 && !isFilled(x, y);
        return !isNone;
    }

    int op(int m, int op, int x, int y) {
        if (!isMethod(m) || !areOperands(methods.get(m), op, x, y)) {
            return NONE;
        }
        Method it = methods.get(m);
        if (it.code.size() == 200) {
            return FULL;
        }
        it.code.add(new int[] {op, x, y});
        it.found = null;
        return it.code.size() - 1;
    }

    int handler(int m, int from, int to, int c, int place) {
        if (!isMethod(m) || !isKind(c) || from < 0 || from >= to || to > 200 || place < 0 || place > 199) {
            return NONE;
        }
        Method it = methods.get(m);
        if (it.handlers.size() == 8) {
            return FULL;
        }
        it.handlers.add(new int[] {from, to, c, place});
        it.found = null;
        return it.handlers.size() - 1;
    }

    private List<Integer> upward(int c) {
        List<Integer> line = new ArrayList<>();
        for (int at = c; at != NONE; at = kinds.get(at).upper) {
            line.add(at);
        }
        return line;
    }

    private static boolean isReference(int t) {
        return t != 0 && t != 99;
    }

    private static boolean isKindType(int t) {
        return t >= 1 && t <= 32;
    }

    private static boolean isRow(int t) {
        return t >= 64 && t <= 96;
    }

    private boolean goesInto(int t, int into) {
        if (t == into) {
            return true;
        }
        if (t == 97) {
            return isReference(into) && into != 98;
        }
        return isKindType(t) && isKindType(into) && upward(t - 1).contains(into - 1);
    }

    private int meet(int a, int b) {
        if (a == b) {
            return a;
        }
        if (!isReference(a) || !isReference(b)) {
            return 99;
        }
        if (a == 97 || b == 97) {
            return a == 97 ? b : a;
        }
        if (isKindType(a) && isKindType(b)) {
            for (int c : upward(a - 1)) {
                if (upward(b - 1).contains(c)) {
                    return c + 1;
                }
            }
        }
        return 98;
    }

    /** What an instruction needs, from below, as letters or types: I int, R reference, W row or NULL, * anything. */
    private List<Object> needs(Method it, int[] in) {
        int op = in[0];
        List<Object> all = new ArrayList<>();
        if (op == 18 || op == 19 || op == 31 || op == 41) {
            all.add('I');
        } else if ((op >= 7 && op <= 17) || op == 20) {
            all.addAll(List.of('I', 'I'));
        } else if (op == 3 || op == 4 || op == 5) {
            all.add('*');
        } else if (op == 6) {
            all.addAll(List.of('*', '*'));
        } else if (op == 21 || op == 22 || op == 29 || op == 30) {
            all.add('R');
        } else if (op == 23 || op == 24) {
            all.addAll(List.of('R', 'R'));
        } else if (op == 27) {
            all.add(in[1] + 1);
        } else if (op == 28) {
            all.addAll(List.of(in[1] + 1, kinds.get(in[1]).fields.get(in[2])));
        } else if (op == 32) {
            all.add('W');
        } else if (op == 33) {
            all.addAll(List.of('W', 'I'));
        } else if (op == 34) {
            all.addAll(List.of('W', 'I', '*'));
        } else if (op == 35) {
            all.addAll(methods.get(in[1]).parameters);
        } else if (op == 36) {
            Method called = methods.get(kinds.get(in[1]).slots[in[2]]);
            all.add(in[1] + 1);
            all.addAll(called.parameters.subList(1, called.parameters.size()));
        } else if (op == 38) {
            all.add(it.gives);
        } else if (op == 39) {
            all.add('*');
        }
        return all;
    }

    private boolean isMet(Object need, int t) {
        if (need instanceof Integer type) {
            return goesInto(t, type);
        }
        char letter = (Character) need;
        return letter == '*' || (letter == 'I' && t == 0) || (letter == 'R' && isReference(t))
                || (letter == 'W' && (isRow(t) || t == 97));
    }

    private List<Integer> puts(Frame f, int[] in, List<Integer> taken) {
        int op = in[0];
        if (op == 0 || op == 40 || (op >= 7 && op <= 18) || op == 29 || op == 32) {
            return List.of(0);
        }
        switch (op) {
            case 1:
                return List.of(97);
            case 2:
                return List.of(f.locals.get(in[1]));
            case 5:
                return List.of(taken.get(0), taken.get(0));
            case 6:
                return List.of(taken.get(1), taken.get(0));
            case 26:
            case 30:
                return List.of(in[1] + 1);
            case 27:
                return List.of(kinds.get(in[1]).fields.get(in[2]));
            case 31:
                return List.of(in[1] == 0 ? 64 : 65 + (in[1] - 1));
            case 33:
                return List.of(taken.get(0) == 97 ? 97 : taken.get(0) == 64 ? 0 : taken.get(0) - 65 + 1);
            case 35:
            case 36:
                int gives = methods.get(op == 35 ? in[1] : kinds.get(in[1]).slots[in[2]]).gives;
                return gives == NONE ? List.of() : List.of(gives);
            default:
                return List.of();
        }
    }

    private boolean isAllowed(Method it, Frame f, int[] in, List<Integer> taken) {
        switch (in[0]) {
            case 2:
                return f.locals.get(in[1]) != 99;
            case 34:
                int row = taken.get(0);
                int element = row == 64 ? 0 : row - 65 + 1;
                return row == 97 || goesInto(taken.get(2), element);
            case 37:
                return it.gives == NONE;
            case 38:
                return it.gives != NONE;
            case 39:
                return isKindType(taken.get(0)) || taken.get(0) == 97;
            default:
                return true;
        }
    }

    /** What stands behind an instruction, or null when it does not fit. */
    private Frame done(Method it, Frame before, int[] in) {
        Frame f = before.copy();
        List<Object> needs = needs(it, in);
        int low = f.stack.size() - needs.size();
        if (low < 0) {
            return null;
        }
        List<Integer> taken = new ArrayList<>(f.stack.subList(low, f.stack.size()));
        for (int n = 0; n < taken.size(); n++) {
            if (!isMet(needs.get(n), taken.get(n))) {
                return null;
            }
        }
        if (!isAllowed(it, f, in, taken)) {
            return null;
        }
        f.stack.subList(low, f.stack.size()).clear();
        f.stack.addAll(puts(before, in, taken));
        if (in[0] == 3) {
            f.locals.set(in[1], taken.get(0));
        }
        return f.stack.size() > it.stack ? null : f;
    }

    private void come(Method it, TreeSet<Integer> marked, Frame f, int from, int to) throws WrongAt {
        if (to >= it.code.size()) {
            throw new WrongAt(from);
        }
        Frame there = it.found[to];
        if (there == null) {
            it.found[to] = f.copy();
            marked.add(to);
            return;
        }
        if (there.stack.size() != f.stack.size()) {
            throw new WrongAt(to);
        }
        for (int k = 0; k < it.locals; k++) {
            int met = meet(there.locals.get(k), f.locals.get(k));
            if (there.locals.set(k, met) != met) {
                marked.add(to);
            }
        }
        for (int k = 0; k < f.stack.size(); k++) {
            int met = meet(there.stack.get(k), f.stack.get(k));
            if (met == 99) {
                throw new WrongAt(to);
            }
            if (there.stack.set(k, met) != met) {
                marked.add(to);
            }
        }
    }

    private void look(Method it, TreeSet<Integer> marked, int i) throws WrongAt {
        looks++;
        for (int[] h : it.handlers) {
            if (h[0] <= i && i < h[1]) {
                Frame f = it.found[i].copy();
                f.stack = new ArrayList<>(List.of(h[2] + 1));
                if (it.stack == 0) {
                    throw new WrongAt(i);
                }
                come(it, marked, f, i, h[3]);
            }
        }
        int[] in = it.code.get(i);
        Frame behind = done(it, it.found[i], in);
        if (behind == null) {
            throw new WrongAt(i);
        }
        if (!List.of(25, 37, 38, 39).contains(in[0])) {
            come(it, marked, behind, i, i + 1);
        }
        if (in[0] >= 19 && in[0] <= 25) {
            come(it, marked, behind, i, in[1]);
        }
    }

    int verify(int m) {
        if (!isMethod(m)) {
            return NONE;
        }
        Method it = methods.get(m);
        it.found = new Frame[it.code.size()];
        looks = 0;
        Frame first = new Frame();
        first.locals.addAll(it.parameters);
        while (first.locals.size() < it.locals) {
            first.locals.add(99);
        }
        TreeSet<Integer> marked = new TreeSet<>();
        try {
            come(it, marked, first, 0, 0);
            while (!marked.isEmpty()) {
                look(it, marked, marked.pollFirst());
            }
        } catch (WrongAt wrong) {
            return 1 + wrong.place;
        }
        return 0;
    }

    int stands(int m, int i, int what, int k) {
        if (!isMethod(m) || methods.get(m).found == null) {
            return NONE;
        }
        Frame[] found = methods.get(m).found;
        if (i < 0 || i >= found.length || found[i] == null || what < 0 || what > 2) {
            return NONE;
        }
        if (what == 0) {
            return found[i].stack.size();
        }
        List<Integer> types = what == 1 ? found[i].locals : found[i].stack;
        return k >= 0 && k < types.size() ? types.get(k) : NONE;
    }

    int looked() {
        return looks;
    }

    int codeSize(int m) {
        return isMethod(m) ? methods.get(m).code.size() : 0;
    }

    int kindCount() {
        return kinds.size();
    }

    int methodCount() {
        return methods.size();
    }

    /** Whether an instruction could be told and would fit behind the last one, as the last verify found it. */
    boolean wouldFit(int m, int op, int x, int y) {
        Method it = methods.get(m);
        if (!areOperands(it, op, x, y)) {
            return false;
        }
        int last = it.code.size() - 1;
        if (last < 0 || it.found == null || it.found[last] == null) {
            return true;
        }
        Frame behind = done(it, it.found[last], it.code.get(last));
        return behind != null && done(it, behind, new int[] {op, x, y}) != null;
    }
}
