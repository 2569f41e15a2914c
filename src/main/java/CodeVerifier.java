import java.util.Arrays;

/** Verifies the code of an object machine's methods; ../shared/DOC.md says what each call promises. */
public final class CodeVerifier {
    public static final int NONE = -1;
    public static final int FULL = -2;

    private static final int MOST_KINDS = 32;
    private static final int MOST_FIELDS = 15;
    private static final int SLOTS = 16;
    private static final int MOST_METHODS = 64;
    private static final int MOST_PARAMETERS = 8;
    private static final int ROOM = 12;
    private static final int MOST_INSTRUCTIONS = 200;
    private static final int MOST_HANDLERS = 8;

    // A type climbs at most 34 times (NULL, 32 classes, ANY, UNUSABLE), so that 200 instructions
    // with 12 types each are looked at fewer than 200 * (1 + 12 * 34) = 81,800 times.
    private static final int MOST_LOOKS = 1_000_000;

    private static final int INT = 0;
    private static final int FIRST_KIND = 1;
    private static final int ROW_OF_INTS = 64;
    private static final int NULL = 97;
    private static final int ANY = 98;
    private static final int UNUSABLE = 99;

    private static final int OP_CONST = 0;
    private static final int OP_NULL = 1;
    private static final int OP_LOAD = 2;
    private static final int OP_STORE = 3;
    private static final int OP_POP = 4;
    private static final int OP_DUP = 5;
    private static final int OP_SWAP = 6;
    private static final int OP_LAST_OF_TWO_INTS = 17;
    private static final int OP_OF_ONE_INT = 18;
    private static final int OP_IF = 19;
    private static final int OP_IFC = 20;
    private static final int OP_IFNULL = 21;
    private static final int OP_IFSOME = 22;
    private static final int OP_IFSAME = 23;
    private static final int OP_IFOTHER = 24;
    private static final int OP_GOTO = 25;
    private static final int OP_NEW = 26;
    private static final int OP_GET = 27;
    private static final int OP_PUT = 28;
    private static final int OP_IS = 29;
    private static final int OP_CAST = 30;
    private static final int OP_ROW = 31;
    private static final int OP_LENGTH = 32;
    private static final int OP_AT = 33;
    private static final int OP_TO = 34;
    private static final int OP_CALL = 35;
    private static final int OP_SEND = 36;
    private static final int OP_RETURN = 37;
    private static final int OP_GIVE = 38;
    private static final int OP_THROW = 39;
    private static final int OP_IN = 40;
    private static final int OP_OUT = 41;

    private static final int AS_BEFORE = 0;
    private static final int CHANGED = 1;
    private static final int APART = 2;

    private final Told told;
    private final Walk walk;

    public CodeVerifier() {
        told = new Told();
        walk = new Walk(told);
    }

    public int kind(int upper) {
        Kind above = told.kindAt(upper);
        if (upper != NONE && above == null) {
            return NONE;
        }
        return told.addKind(above);
    }

    public int field(int c, int type) {
        Kind kind = told.kindAt(c);
        if (kind == null || !told.isType(type) || kind.isAboveAnother || kind.isOwner) {
            return NONE;
        }
        return kind.addField(type);
    }

    public int method(int owner, int gives, int locals, int stack) {
        Kind owning = told.kindAt(owner);
        if (owner != NONE && owning == null) {
            return NONE;
        }
        if (gives != NONE && !told.isType(gives)) {
            return NONE;
        }
        if (!isRoom(locals, stack) || (owning != null && locals == 0)) {
            return NONE;
        }
        return told.addMethod(owning, gives, locals, stack);
    }

    public int parameter(int m, int type) {
        Method method = told.methodAt(m);
        if (method == null || !told.isType(type) || !method.isOpenForParameters()) {
            return NONE;
        }
        return method.addParameter(type);
    }

    public boolean slot(int m, int s) {
        Method method = told.methodAt(m);
        if (method == null || s < 0 || s >= SLOTS) {
            return false;
        }
        Kind owner = method.owner;
        if (owner == null || owner.isAboveAnother) {
            return false;
        }
        Method present = told.methodAt(owner.inSlot(s));
        if (present != null && !present.isCalledLike(method)) {
            return false;
        }
        owner.slots[s] = m;
        method.stoodInSlot = true;
        return true;
    }

    public int op(int m, int op, int x, int y) {
        Method method = told.methodAt(m);
        if (method == null || !told.areOperands(method, op, x, y)) {
            return NONE;
        }
        return method.addInstruction(op, x, y);
    }

    public int handler(int m, int from, int to, int c, int place) {
        Method method = told.methodAt(m);
        if (method == null || told.kindAt(c) == null || !isPlace(place)) {
            return NONE;
        }
        if (from < 0 || from >= to || to > MOST_INSTRUCTIONS) {
            return NONE;
        }
        return method.addHandler(from, to, c, place);
    }

    public int verify(int m) {
        Method method = told.methodAt(m);
        if (method == null) {
            return NONE;
        }
        int wrong = walk.goOver(method);
        return wrong == NONE ? 0 : wrong + 1;
    }

    public int stands(int m, int i, int what, int k) {
        Method method = told.methodAt(m);
        if (method == null || !method.isVerified) {
            return NONE;
        }
        Instruction it = method.instructionAt(i);
        if (it == null || !it.isReached) {
            return NONE;
        }
        switch (what) {
            case 0:
                return it.before.height;
            case 1:
                return it.before.localAt(k);
            case 2:
                return it.before.placeAt(k);
            default:
                return NONE;
        }
    }

    public int looked() {
        return walk.looks;
    }

    // Each is held against ROOM alone first, since their sum may wrap around.
    private static boolean isRoom(int locals, int stack) {
        return locals >= 0 && locals <= ROOM && stack >= 0 && stack <= ROOM && locals + stack <= ROOM;
    }

    private static boolean isPlace(int place) {
        return place >= 0 && place < MOST_INSTRUCTIONS;
    }

    private static boolean isKindType(int type) {
        return type >= FIRST_KIND && type < FIRST_KIND + MOST_KINDS;
    }

    private static boolean isRowType(int type) {
        return type >= ROW_OF_INTS && type <= ROW_OF_INTS + MOST_KINDS;
    }

    private static boolean isReference(int type) {
        return type > INT && type < UNUSABLE;
    }

    // A row's type is that of its elements moved up by ROW_OF_INTS, ints and classes alike.
    private static int rowOf(int elementType) {
        return ROW_OF_INTS + elementType;
    }

    private static int elementOf(int rowType) {
        return rowType - ROW_OF_INTS;
    }

    /** A class of the machine. */
    private static final class Kind {
        final int number;
        // One bit for this class and one for each above it.
        final int line;
        final int[] fields = new int[MOST_FIELDS];
        final int[] slots = new int[SLOTS];
        int fieldCount;
        boolean isAboveAnother;
        boolean isOwner;

        Kind(int number, Kind above) {
            this.number = number;
            int ownBit = 1 << number;
            if (above == null) {
                line = ownBit;
                Arrays.fill(slots, NONE);
                return;
            }
            line = above.line | ownBit;
            fieldCount = above.fieldCount;
            for (int f = 0; f < MOST_FIELDS; f++) {
                fields[f] = above.fields[f];
            }
            for (int s = 0; s < SLOTS; s++) {
                slots[s] = above.slots[s];
            }
        }

        int asType() {
            return FIRST_KIND + number;
        }

        boolean isOrIsUnder(int c) {
            return ((line >>> c) & 1) != 0;
        }

        int addField(int type) {
            if (fieldCount >= MOST_FIELDS) {
                return FULL;
            }
            fields[fieldCount] = type;
            fieldCount++;
            return fieldCount - 1;
        }

        int fieldType(int f) {
            return f >= 0 && f < fieldCount && f < MOST_FIELDS ? fields[f] : NONE;
        }

        int inSlot(int s) {
            return s >= 0 && s < SLOTS ? slots[s] : NONE;
        }
    }

    private static final class Method {
        final Kind owner;
        final int gives;
        final int locals;
        final int stack;
        final int[] parameters = new int[MOST_PARAMETERS];
        final Instruction[] instructions = new Instruction[MOST_INSTRUCTIONS];
        final Handler[] handlers = new Handler[MOST_HANDLERS];
        int parameterCount;
        int instructionCount;
        int handlerCount;
        boolean stoodInSlot;
        boolean isVerified;

        Method(Kind owner, int gives, int locals, int stack) {
            this.owner = owner;
            this.gives = gives;
            this.locals = locals;
            this.stack = stack;
            if (owner != null) {
                parameters[0] = owner.asType();
                parameterCount = 1;
            }
        }

        boolean isOpenForParameters() {
            return parameterCount < locals && parameterCount < MOST_PARAMETERS
                    && instructionCount == 0 && !stoodInSlot;
        }

        int addParameter(int type) {
            if (parameterCount >= MOST_PARAMETERS) {
                return NONE;
            }
            parameters[parameterCount] = type;
            parameterCount++;
            isVerified = false;
            return parameterCount;
        }

        int parameterAt(int p) {
            return p >= 0 && p < parameterCount && p < MOST_PARAMETERS ? parameters[p] : NONE;
        }

        // The first parameter is left out: it is the owner's class, which differs between a class and those under it.
        boolean isCalledLike(Method other) {
            if (gives != other.gives || parameterCount != other.parameterCount) {
                return false;
            }
            for (int p = 1; p < parameterCount; p++) {
                if (parameterAt(p) != other.parameterAt(p)) {
                    return false;
                }
            }
            return true;
        }

        int addInstruction(int op, int x, int y) {
            if (instructionCount >= MOST_INSTRUCTIONS) {
                return FULL;
            }
            instructions[instructionCount] = new Instruction(op, x, y);
            instructionCount++;
            isVerified = false;
            return instructionCount - 1;
        }

        Instruction instructionAt(int i) {
            return i >= 0 && i < instructionCount && i < MOST_INSTRUCTIONS ? instructions[i] : null;
        }

        int addHandler(int from, int to, int kind, int place) {
            if (handlerCount >= MOST_HANDLERS) {
                return FULL;
            }
            handlers[handlerCount] = new Handler(from, to, kind, place);
            handlerCount++;
            isVerified = false;
            return handlerCount - 1;
        }

        Handler handlerAt(int h) {
            return h >= 0 && h < handlerCount && h < MOST_HANDLERS ? handlers[h] : null;
        }
    }

    private static final class Instruction {
        final int op;
        final int x;
        final int y;
        final Row before = new Row();
        boolean isReached;
        boolean isMarked;

        Instruction(int op, int x, int y) {
            this.op = op;
            this.x = x;
            this.y = y;
        }

        boolean isJump() {
            return op >= OP_IF && op <= OP_GOTO;
        }

        boolean goesOnBehind() {
            return op != OP_GOTO && op != OP_RETURN && op != OP_GIVE && op != OP_THROW;
        }
    }

    private static final class Handler {
        final int from;
        final int to;
        final int kind;
        final int place;

        Handler(int from, int to, int kind, int place) {
            this.from = from;
            this.to = to;
            this.kind = kind;
            this.place = place;
        }

        boolean covers(int i) {
            return from <= i && i < to;
        }
    }

    /** The types in a method's locals and, behind them, on its stack. */
    private static final class Row {
        final int[] types = new int[ROOM];
        int locals;
        int places;
        int height;

        void begin(Method method) {
            locals = method.locals;
            places = method.stack;
            height = 0;
            for (int k = 0; k < locals && k < ROOM; k++) {
                types[k] = k < method.parameterCount ? method.parameterAt(k) : UNUSABLE;
            }
        }

        void copy(Row other) {
            locals = other.locals;
            places = other.places;
            height = other.height;
            for (int k = 0; k < ROOM; k++) {
                types[k] = other.types[k];
            }
        }

        int localAt(int k) {
            return k >= 0 && k < locals && k < ROOM ? types[k] : NONE;
        }

        void setLocal(int k, int type) {
            if (k >= 0 && k < locals && k < ROOM) {
                types[k] = type;
            }
        }

        int placeAt(int k) {
            if (k < 0 || k >= height) {
                return NONE;
            }
            int at = locals + k;
            return at >= 0 && at < ROOM ? types[at] : NONE;
        }

        boolean put(int type) {
            int at = locals + height;
            if (height >= places || at < 0 || at >= ROOM) {
                return false;
            }
            types[at] = type;
            height++;
            return true;
        }

        // What met before the place that can't stays met: stands() shows it.
        int meet(Row coming, Told told) {
            if (height != coming.height) {
                return APART;
            }
            int outcome = AS_BEFORE;
            for (int k = 0; k < locals + height && k < ROOM; k++) {
                int met = told.meeting(types[k], coming.types[k]);
                if (k >= locals && met == UNUSABLE) {
                    return APART;
                }
                if (met != types[k]) {
                    types[k] = met;
                    outcome = CHANGED;
                }
            }
            return outcome;
        }
    }

    /** All classes and methods, and what follows from them for types and operands. */
    private static final class Told {
        private final Kind[] kinds = new Kind[MOST_KINDS];
        private final Method[] methods = new Method[MOST_METHODS];
        private int kindCount;
        private int methodCount;

        Kind kindAt(int c) {
            return c >= 0 && c < kindCount && c < MOST_KINDS ? kinds[c] : null;
        }

        Method methodAt(int m) {
            return m >= 0 && m < methodCount && m < MOST_METHODS ? methods[m] : null;
        }

        int addKind(Kind above) {
            if (kindCount >= MOST_KINDS) {
                return FULL;
            }
            kinds[kindCount] = new Kind(kindCount, above);
            kindCount++;
            if (above != null) {
                above.isAboveAnother = true;
            }
            return kindCount - 1;
        }

        int addMethod(Kind owner, int gives, int locals, int stack) {
            if (methodCount >= MOST_METHODS) {
                return FULL;
            }
            methods[methodCount] = new Method(owner, gives, locals, stack);
            methodCount++;
            if (owner != null) {
                owner.isOwner = true;
            }
            return methodCount - 1;
        }

        boolean isType(int type) {
            if (isRowType(type)) {
                return type == ROW_OF_INTS || kindOf(elementOf(type)) != null;
            }
            return type == INT || kindOf(type) != null;
        }

        boolean areOperands(Method method, int op, int x, int y) {
            if (op >= OP_IF && op <= OP_GOTO) {
                return isPlace(x);
            }
            switch (op) {
                case OP_LOAD:
                case OP_STORE:
                    return x >= 0 && x < method.locals;
                case OP_NEW:
                case OP_IS:
                case OP_CAST:
                    return kindAt(x) != null;
                case OP_GET:
                case OP_PUT:
                    return fieldType(x, y) != NONE;
                case OP_ROW:
                    return x >= 0 && x <= kindCount;
                case OP_CALL:
                    return methodAt(x) != null;
                case OP_SEND:
                    return methodInSlot(x, y) != null;
                default:
                    return op >= OP_CONST && op <= OP_OUT;
            }
        }

        int fieldType(int c, int f) {
            Kind kind = kindAt(c);
            return kind == null ? NONE : kind.fieldType(f);
        }

        Method methodInSlot(int c, int s) {
            Kind kind = kindAt(c);
            return kind == null ? null : methodAt(kind.inSlot(s));
        }

        boolean goesInto(int type, int other) {
            if (type == other) {
                return true;
            }
            if (type == NULL) {
                return isReference(other) && other != ANY;
            }
            Kind lower = kindOf(type);
            Kind upper = kindOf(other);
            return lower != null && upper != null && lower.isOrIsUnder(upper.number);
        }

        int meeting(int one, int other) {
            if (one == other) {
                return one;
            }
            if (!isReference(one) || !isReference(other)) {
                return UNUSABLE;
            }
            if (one == NULL) {
                return other;
            }
            if (other == NULL) {
                return one;
            }
            return lowestAboveBoth(kindOf(one), kindOf(other));
        }

        // A class has a greater number than all above it, so the greatest common number is the lowest class.
        private static int lowestAboveBoth(Kind one, Kind other) {
            if (one == null || other == null) {
                return ANY;
            }
            int common = one.line & other.line;
            for (int c = MOST_KINDS - 1; c >= 0; c--) {
                if (((common >>> c) & 1) != 0) {
                    return FIRST_KIND + c;
                }
            }
            return ANY;
        }

        private Kind kindOf(int type) {
            int c = type - FIRST_KIND;
            return c >= 0 && c < kindCount && c < MOST_KINDS ? kinds[c] : null;
        }
    }

    /** Does one instruction on a row of types. */
    private static final class Step {
        private final Told told;
        private final Row row;
        private boolean fits;

        Step(Told told, Row row) {
            this.told = told;
            this.row = row;
        }

        boolean perform(Method method, Instruction it) {
            fits = true;
            if (it.op <= OP_SWAP) {
                move(it);
            } else if (it.op <= OP_OF_ONE_INT) {
                reckon(it.op);
            } else if (it.op <= OP_GOTO) {
                branch(it.op);
            } else if (it.op <= OP_CAST) {
                useObject(it);
            } else if (it.op <= OP_TO) {
                useRow(it);
            } else if (it.op <= OP_SEND) {
                invoke(it);
            } else {
                leaveOrTalk(method, it.op);
            }
            return fits;
        }

        private void move(Instruction it) {
            switch (it.op) {
                case OP_CONST:
                    put(INT);
                    break;
                case OP_NULL:
                    put(NULL);
                    break;
                case OP_LOAD:
                    load(it.x);
                    break;
                case OP_STORE:
                    row.setLocal(it.x, take());
                    break;
                case OP_POP:
                    take();
                    break;
                case OP_DUP:
                    duplicate();
                    break;
                default:
                    swap();
                    break;
            }
        }

        private void load(int x) {
            int type = row.localAt(x);
            need(type != UNUSABLE && type != NONE);
            put(type);
        }

        private void duplicate() {
            int top = take();
            put(top);
            put(top);
        }

        private void swap() {
            int top = take();
            int below = take();
            put(top);
            put(below);
        }

        private void reckon(int op) {
            takeInt();
            if (op <= OP_LAST_OF_TWO_INTS) {
                takeInt();
            }
            put(INT);
        }

        private void branch(int op) {
            switch (op) {
                case OP_IF:
                    takeInt();
                    break;
                case OP_IFC:
                    takeInt();
                    takeInt();
                    break;
                case OP_IFNULL:
                case OP_IFSOME:
                    takeReference();
                    break;
                case OP_IFSAME:
                case OP_IFOTHER:
                    takeReference();
                    takeReference();
                    break;
                default:
                    break;
            }
        }

        private void useObject(Instruction it) {
            int type = FIRST_KIND + it.x;
            switch (it.op) {
                case OP_NEW:
                    put(type);
                    break;
                case OP_GET:
                    takeInto(type);
                    put(told.fieldType(it.x, it.y));
                    break;
                case OP_PUT:
                    takeInto(told.fieldType(it.x, it.y));
                    takeInto(type);
                    break;
                case OP_IS:
                    takeReference();
                    put(INT);
                    break;
                default:
                    takeReference();
                    put(type);
                    break;
            }
        }

        private void useRow(Instruction it) {
            switch (it.op) {
                case OP_ROW:
                    takeInt();
                    put(rowOf(it.x));
                    break;
                case OP_LENGTH:
                    takeRow();
                    put(INT);
                    break;
                case OP_AT:
                    takeInt();
                    int read = takeRow();
                    put(read == NULL ? NULL : elementOf(read));
                    break;
                default:
                    int value = take();
                    takeInt();
                    int written = takeRow();
                    need(written == NULL || told.goesInto(value, elementOf(written)));
                    break;
            }
        }

        private void invoke(Instruction it) {
            boolean isSend = it.op == OP_SEND;
            Method called = isSend ? told.methodInSlot(it.x, it.y) : told.methodAt(it.x);
            if (called == null) {
                fits = false;
                return;
            }
            int first = isSend ? 1 : 0;
            for (int p = called.parameterCount - 1; p >= first; p--) {
                takeInto(called.parameterAt(p));
            }
            if (isSend) {
                takeInto(FIRST_KIND + it.x);
            }
            if (called.gives != NONE) {
                put(called.gives);
            }
        }

        private void leaveOrTalk(Method method, int op) {
            switch (op) {
                case OP_RETURN:
                    need(method.gives == NONE);
                    break;
                case OP_GIVE:
                    need(method.gives != NONE);
                    takeInto(method.gives);
                    break;
                case OP_THROW:
                    int thrown = take();
                    need(isKindType(thrown) || thrown == NULL);
                    break;
                case OP_IN:
                    put(INT);
                    break;
                default:
                    takeInt();
                    break;
            }
        }

        private void need(boolean holds) {
            fits = fits && holds;
        }

        private void put(int type) {
            need(row.put(type));
        }

        private int take() {
            int type = row.placeAt(row.height - 1);
            if (type == NONE) {
                fits = false;
            } else {
                row.height--;
            }
            return type;
        }

        private void takeInt() {
            need(take() == INT);
        }

        private void takeReference() {
            need(isReference(take()));
        }

        private int takeRow() {
            int type = take();
            need(isRowType(type) || type == NULL);
            return type;
        }

        private void takeInto(int type) {
            need(told.goesInto(take(), type));
        }
    }

    /** Goes over a method's code as long as an instruction is marked. */
    private static final class Walk {
        private final Told told;
        private final Row row;
        private final Step step;
        private int leastMark;
        private int wrong;
        int looks;

        Walk(Told told) {
            this.told = told;
            row = new Row();
            step = new Step(told, row);
        }

        /** The instruction that is wrong, or NONE. */
        int goOver(Method method) {
            begin(method);
            for (int turn = 0; turn < MOST_LOOKS && wrong == NONE; turn++) {
                int i = leastMarked(method);
                if (i == NONE) {
                    break;
                }
                lookAt(method, i);
            }
            return wrong;
        }

        private void begin(Method method) {
            looks = 0;
            leastMark = 0;
            method.isVerified = true;
            for (int i = 0; i < method.instructionCount; i++) {
                Instruction it = method.instructionAt(i);
                if (it != null) {
                    it.isReached = false;
                    it.isMarked = false;
                }
            }
            wrong = NONE;
            row.begin(method);
            come(method, 0, 0);
        }

        // None below leastMark is marked, so the search need not start at 0.
        private int leastMarked(Method method) {
            for (int i = leastMark; i < method.instructionCount; i++) {
                Instruction it = method.instructionAt(i);
                if (it != null && it.isMarked) {
                    leastMark = i;
                    return i;
                }
            }
            return NONE;
        }

        private void lookAt(Method method, int i) {
            Instruction it = method.instructionAt(i);
            if (it == null) {
                return;
            }
            it.isMarked = false;
            looks++;
            comeToHandlers(method, i, it);
            if (wrong != NONE) {
                return;
            }
            // Copied only now, since a handler's place may be the covered instruction itself.
            row.copy(it.before);
            if (!step.perform(method, it)) {
                wrong = i;
                return;
            }
            if (it.goesOnBehind()) {
                come(method, i, i + 1);
            }
            if (it.isJump() && wrong == NONE) {
                come(method, i, it.x);
            }
        }

        private void comeToHandlers(Method method, int i, Instruction it) {
            for (int h = 0; h < method.handlerCount && wrong == NONE; h++) {
                Handler covering = method.handlerAt(h);
                if (covering == null || !covering.covers(i)) {
                    continue;
                }
                row.copy(it.before);
                row.height = 0;
                if (row.put(FIRST_KIND + covering.kind)) {
                    come(method, i, covering.place);
                } else {
                    wrong = i;
                }
            }
        }

        private void come(Method method, int from, int to) {
            Instruction target = method.instructionAt(to);
            if (target == null) {
                wrong = from;
                return;
            }
            if (!target.isReached) {
                target.isReached = true;
                target.before.copy(row);
                mark(target, to);
                return;
            }
            int outcome = target.before.meet(row, told);
            if (outcome == APART) {
                wrong = to;
            } else if (outcome == CHANGED) {
                mark(target, to);
            }
        }

        private void mark(Instruction it, int i) {
            it.isMarked = true;
            leastMark = Math.min(leastMark, i);
        }
    }
}
