/** The instructions, each on stacks that fit and on ones that do not (promise 9, with stands of promise 10). */
public final class InstructionsTest {
    private static final int NONE = CodeVerifier.NONE;
    private static final int INT = 0;
    private static final int TOP = 1;
    private static final int LEFT = 2;
    private static final int RIGHT = 3;
    private static final int OTHER = 4;
    private static final int INTS = 64;
    private static final int TOPS = 65;
    private static final int LEFTS = 66;
    private static final int NULL = 97;
    private static final int ANY = 98;
    private static final int[] ALL = {INT, TOP, LEFT, RIGHT, OTHER, INTS, TOPS, LEFTS, NULL, ANY};
    private static final int[] REFERENCES = {TOP, LEFT, RIGHT, OTHER, INTS, TOPS, LEFTS, NULL, ANY};
    private static final String WRONG = "wrong";

    public static void main(String[] args) {
        moves();
        ints();
        jumps();
        objects();
        rows();
        calls();
        sends();
        ends();
        room();
        Due.end();
    }

    /** Class 0 with three fields; classes 1 and 2 under it; class 3; method 0 of class 0 in slot 5; method 1. */
    private static CodeVerifier world() {
        CodeVerifier v = new CodeVerifier();
        v.kind(NONE);
        v.field(0, INT);
        v.field(0, TOP);
        v.field(0, INTS);
        v.method(0, INTS, 2, 0);
        v.parameter(0, INT);
        v.slot(0, 5);
        v.kind(0);
        v.kind(0);
        v.kind(NONE);
        v.method(NONE, NONE, 3, 0);
        v.parameter(1, INT);
        v.parameter(1, TOP);
        v.parameter(1, TOPS);
        return v;
    }

    private static void put(CodeVerifier v, int m, int type) {
        if (type == INT) {
            v.op(m, 0, 0, 0);
        } else if (type == NULL) {
            v.op(m, 1, 0, 0);
        } else if (type == ANY) {
            v.op(m, 2, 0, 0);
        } else if (type >= INTS) {
            v.op(m, 0, 0, 0);
            v.op(m, 31, type - 64, 0);
        } else {
            v.op(m, 26, type - 1, 0);
        }
    }

    /** Makes local 0 ANY: a row on one way, an object on the other. */
    private static void makeAny(CodeVerifier v, int m) {
        v.op(m, 40, 0, 0);
        v.op(m, 19, 5, 0);
        v.op(m, 40, 0, 0);
        v.op(m, 31, 0, 0);
        v.op(m, 25, 6, 0);
        v.op(m, 26, 0, 0);
        v.op(m, 3, 0, 0);
    }

    /** The stack behind an instruction, or WRONG if it is wrong on the stack before. */
    private static String behind(int gives, int op, int x, int y, int... before) {
        CodeVerifier v = world();
        int m = v.method(NONE, gives, 2, 10);
        makeAny(v, m);
        for (int type : before) {
            put(v, m, type);
        }
        boolean isJump = op >= 19 && op <= 25;
        int target = 7 + before.length + rowsIn(before) + 1;
        int at = v.op(m, op, isJump ? target : x, y);
        v.op(m, 25, at + 1, 0);
        int answer = v.verify(m);
        if (answer == at + 1) {
            return WRONG;
        }
        if (answer != 0) {
            return "wrong elsewhere: " + answer;
        }
        return stackBefore(v, m, at + 1);
    }

    private static int rowsIn(int[] types) {
        int rows = 0;
        for (int type : types) {
            rows += type >= INTS && type < NULL ? 1 : 0;
        }
        return rows;
    }

    private static String stackBefore(CodeVerifier v, int m, int i) {
        int height = v.stands(m, i, 0, 0);
        StringBuilder all = new StringBuilder();
        for (int k = 0; k < height; k++) {
            all.append(k == 0 ? "" : " ").append(v.stands(m, i, 2, k));
        }
        return height < 0 ? "nothing" : all.toString();
    }

    private static void due(String got, String want, int op, int... before) {
        String call = "op " + op + " on " + java.util.Arrays.toString(before) + " (" + got + " for " + want + ")";
        Due.is(call, got.equals(want), true);
    }

    private static void fits(int op, int x, int y, String want, int... before) {
        due(behind(NONE, op, x, y, before), want, op, before);
    }

    private static void wrong(int op, int x, int y, int... before) {
        due(behind(NONE, op, x, y, before), WRONG, op, before);
    }

    private static void fitsOnly(int op, int x, int y, String want, int[] fitting) {
        wrong(op, x, y);
        for (int type : ALL) {
            boolean isFitting = false;
            for (int other : fitting) {
                isFitting |= other == type;
            }
            due(behind(NONE, op, x, y, type), isFitting ? want : WRONG, op, type);
        }
    }

    private static void moves() {
        Due.terms("INSTRUCTIONS 0 CONST .. 6 SWAP");
        fits(0, 0, 0, "0");
        fits(1, 0, 0, "97");
        fits(2, 0, 0, "98");
        wrong(2, 1, 0);
        wrong(3, 1, 0);
        wrong(4, 0, 0);
        wrong(5, 0, 0);
        wrong(6, 0, 0);
        for (int type : ALL) {
            fits(3, 1, 0, "", type);
            fits(4, 0, 0, "", type);
            fits(5, 0, 0, type + " " + type, type);
            wrong(6, 0, 0, type);
            fits(6, 0, 0, "64 " + type + " 0", INTS, INT, type);
        }
        stores();
    }

    private static void stores() {
        CodeVerifier v = world();
        int m = v.method(NONE, NONE, 2, 1);
        v.op(m, 26, 1, 0);
        v.op(m, 3, 1, 0);
        v.op(m, 2, 1, 0);
        v.op(m, 37, 0, 0);
        Due.is("STORE 1, LOAD 1", v.verify(m), 0);
        Due.is("local 1", v.stands(m, 2, 1, 1), LEFT);
        Due.is("local 0", v.stands(m, 2, 1, 0), 99);
        Due.is("loaded", v.stands(m, 3, 2, 0), LEFT);
    }

    private static void ints() {
        Due.terms("INSTRUCTIONS 7 .. 18, 40 IN, 41 OUT");
        for (int op = 7; op <= 17; op++) {
            fits(op, 0, 0, "0", INT, INT);
            fits(op, 0, 0, "97 0", NULL, INT, INT);
            wrong(op, 0, 0);
            wrong(op, 0, 0, INT);
            wrong(op, 0, 0, INT, NULL);
            wrong(op, 0, 0, NULL, INT);
        }
        fitsOnly(18, 0, 0, "0", new int[] {INT});
        fits(40, 0, 0, "0");
        fitsOnly(41, 0, 0, "", new int[] {INT});
    }

    private static void jumps() {
        Due.terms("INSTRUCTIONS 19 IF .. 25 GOTO");
        fitsOnly(19, 0, 0, "", new int[] {INT});
        fits(20, 0, 0, "", INT, INT);
        fits(20, 0, 0, "0", INT, INT, INT);
        wrong(20, 0, 0, INT);
        wrong(20, 0, 0, TOP, INT);
        wrong(20, 0, 0, INT, TOP);
        for (int op = 21; op <= 22; op++) {
            fitsOnly(op, 0, 0, "", REFERENCES);
        }
        for (int op = 23; op <= 24; op++) {
            wrong(op, 0, 0);
            wrong(op, 0, 0, TOP);
            wrong(op, 0, 0, INT, INT);
            for (int type : REFERENCES) {
                fits(op, 0, 0, "", type, NULL);
                fits(op, 0, 0, "", OTHER, type);
                wrong(op, 0, 0, type, INT);
                wrong(op, 0, 0, INT, type);
            }
        }
        fits(25, 0, 0, "");
        fits(25, 0, 0, "0 1", INT, TOP);
    }

    private static void objects() {
        Due.terms("INSTRUCTIONS 26 NEW .. 30 CAST");
        fits(26, 3, 0, "4");
        int[] intoTop = {TOP, LEFT, RIGHT, NULL};
        fitsOnly(27, 0, 0, "0", intoTop);
        fitsOnly(27, 0, 1, "1", intoTop);
        fitsOnly(27, 0, 2, "64", intoTop);
        fitsOnly(27, 1, 1, "1", new int[] {LEFT, NULL});
        for (int type : ALL) {
            boolean isInto = type == TOP || type == LEFT || type == RIGHT || type == NULL;
            due(behind(NONE, 28, 0, 1, TOP, type), isInto ? "" : WRONG, 28, TOP, type);
            due(behind(NONE, 28, 0, 0, type, INT), isInto ? "" : WRONG, 28, type, INT);
            due(behind(NONE, 28, 0, 0, TOP, type), type == INT ? "" : WRONG, 28, TOP, type);
            boolean isInts = type == INTS || type == NULL;
            due(behind(NONE, 28, 0, 2, LEFT, type), isInts ? "" : WRONG, 28, LEFT, type);
        }
        wrong(28, 0, 0, INT);
        fitsOnly(29, 1, 0, "0", REFERENCES);
        fitsOnly(30, 1, 0, "2", REFERENCES);
    }

    private static void rows() {
        Due.terms("INSTRUCTIONS 31 ROW .. 34 TO");
        fitsOnly(31, 0, 0, "64", new int[] {INT});
        fitsOnly(31, 4, 0, "68", new int[] {INT});
        fitsOnly(32, 0, 0, "0", new int[] {INTS, TOPS, LEFTS, NULL});
        fits(33, 0, 0, "0", INTS, INT);
        fits(33, 0, 0, "1", TOPS, INT);
        fits(33, 0, 0, "2", LEFTS, INT);
        fits(33, 0, 0, "97", NULL, INT);
        wrong(33, 0, 0, INT);
        wrong(33, 0, 0, TOP, INT);
        wrong(33, 0, 0, ANY, INT);
        wrong(33, 0, 0, INT, INT);
        wrong(33, 0, 0, INTS, NULL);
        wrong(33, 0, 0, INT, INTS);
        for (int type : ALL) {
            fits(34, 0, 0, "", NULL, INT, type);
            boolean isLeft = type == LEFT || type == NULL;
            due(behind(NONE, 34, 0, 0, LEFTS, INT, type), isLeft ? "" : WRONG, 34, LEFTS, INT, type);
            boolean isTop = isLeft || type == TOP || type == RIGHT;
            due(behind(NONE, 34, 0, 0, TOPS, INT, type), isTop ? "" : WRONG, 34, TOPS, INT, type);
            due(behind(NONE, 34, 0, 0, INTS, INT, type), type == INT ? "" : WRONG, 34, INTS, INT, type);
            due(behind(NONE, 34, 0, 0, NULL, type, INT), type == INT ? "" : WRONG, 34, NULL, type, INT);
        }
        wrong(34, 0, 0, TOP, INT, TOP);
        wrong(34, 0, 0, ANY, INT, TOP);
        wrong(34, 0, 0, INT, INT, INT);
        wrong(34, 0, 0, INT, TOP);
    }

    private static void calls() {
        Due.terms("INSTRUCTIONS 35 CALL");
        fits(35, 1, 0, "", INT, TOP, TOPS);
        fits(35, 1, 0, "", INT, LEFT, NULL);
        fits(35, 1, 0, "0", INT, INT, NULL, TOPS);
        wrong(35, 1, 0, TOP, TOPS);
        wrong(35, 1, 0, INT, TOP, LEFTS);
        wrong(35, 1, 0, INT, OTHER, TOPS);
        wrong(35, 1, 0, TOPS, TOP, INT);
        wrong(35, 1, 0, INT, ANY, TOPS);
        fits(35, 0, 0, "64", RIGHT, INT);
        wrong(35, 0, 0, INT, RIGHT);
        wrong(35, 0, 0, OTHER, INT);
    }

    private static void sends() {
        Due.terms("INSTRUCTIONS 36 SEND");
        fits(36, 0, 5, "64", TOP, INT);
        fits(36, 0, 5, "64", LEFT, INT);
        fits(36, 1, 5, "64", LEFT, INT);
        fits(36, 1, 5, "64", NULL, INT);
        wrong(36, 1, 5, TOP, INT);
        wrong(36, 1, 5, RIGHT, INT);
        wrong(36, 0, 5, OTHER, INT);
        wrong(36, 0, 5, TOP, TOP);
        wrong(36, 0, 5, INT);
        wrong(36, 0, 5, TOP);
    }

    private static void ends() {
        Due.terms("INSTRUCTIONS 37 RETURN, 38 GIVE, 39 THROW");
        due(behind(NONE, 37, 0, 0), "nothing", 37);
        due(behind(NONE, 37, 0, 0, INT, TOP), "nothing", 37, INT, TOP);
        due(behind(INT, 37, 0, 0, INT), WRONG, 37, INT);
        due(behind(NONE, 38, 0, 0, INT), WRONG, 38, INT);
        due(behind(INT, 38, 0, 0), WRONG, 38);
        for (int type : ALL) {
            due(behind(INT, 38, 0, 0, type), type == INT ? "nothing" : WRONG, 38, type);
            boolean isTop = type == TOP || type == LEFT || type == RIGHT || type == NULL;
            due(behind(TOP, 38, 0, 0, INT, type), isTop ? "nothing" : WRONG, 38, INT, type);
            boolean isTops = type == TOPS || type == NULL;
            due(behind(TOPS, 38, 0, 0, type), isTops ? "nothing" : WRONG, 38, type);
            boolean isThrown = isTop || type == OTHER;
            due(behind(NONE, 39, 0, 0, type), isThrown ? "nothing" : WRONG, 39, type);
        }
        due(behind(NONE, 39, 0, 0), WRONG, 39);
    }

    /** A stack of one place takes one more only where an instruction takes one first. */
    private static void room() {
        Due.terms("a place too many is wrong");
        int[] more = {0, 1, 5, 26, 40};
        for (int op : more) {
            Due.is("op " + op + " with no place left", inOnePlace(op, 0), 2);
        }
        int[] asMany = {18, 31};
        for (int op : asMany) {
            Due.is("op " + op + " takes one first", inOnePlace(op, 0), 0);
        }
        Due.is("LOAD with no place left", inOnePlace(2, 0), 2);
        Due.is("CALL that gives, with no place left", inOnePlace(35, 2), 2);
    }

    private static int inOnePlace(int op, int x) {
        CodeVerifier v = world();
        v.method(NONE, INT, 0, 0);
        int m = v.method(NONE, NONE, 1, 1);
        v.parameter(m, INT);
        v.op(m, 0, 0, 0);
        v.op(m, op, x, 0);
        v.op(m, 37, 0, 0);
        return v.verify(m);
    }
}
