/** Promises 1 to 3: a new object, kind, field. */
public final class ClassesTest {
    private static final int NONE = CodeVerifier.NONE;
    private static final int FULL = CodeVerifier.FULL;

    public static void main(String[] args) {
        newObjectIsEmpty();
        kindsAreNumbered();
        kindsAreAtMost32();
        fieldsAreNumberedBehindThoseAbove();
        fieldsNeedAToldType();
        fieldsEndWithAClassUnderOrAMethod();
        fieldsAreAtMost15();
        Due.end();
    }

    private static void newObjectIsEmpty() {
        CodeVerifier v = new CodeVerifier();
        Due.is("no class: NEW's method", v.method(0, NONE, 1, 1), NONE);
        Due.is("no class: type 1", v.method(NONE, 1, 1, 1), NONE);
        Due.is("no class: row of class 0", v.method(NONE, 65, 1, 1), NONE);
        Due.is("no method", v.verify(0), NONE);
        Due.is("no method to stand", v.stands(0, 0, 0, 0), NONE);
        Due.is("nothing looked at", v.looked(), 0);
        Due.is("first method", v.method(NONE, NONE, 0, 0), 0);
        Due.is("first class", v.kind(NONE), 0);
    }

    private static void kindsAreNumbered() {
        CodeVerifier v = new CodeVerifier();
        Due.is("kind(own number)", v.kind(0), NONE);
        Due.is("kind(FULL)", v.kind(FULL), NONE);
        Due.is("kind(NONE)", v.kind(NONE), 0);
        Due.is("kind(0)", v.kind(0), 1);
        Due.is("kind(2) before it is there", v.kind(2), NONE);
        Due.is("kind(least int)", v.kind(Integer.MIN_VALUE), NONE);
        Due.is("kind(greatest int)", v.kind(Integer.MAX_VALUE), NONE);
        Due.is("second root", v.kind(NONE), 2);
    }

    private static void kindsAreAtMost32() {
        CodeVerifier v = new CodeVerifier();
        for (int c = 0; c < 32; c++) {
            Due.is("kind " + c, v.kind(c - 1), c);
        }
        Due.is("kind 32 without upper", v.kind(NONE), FULL);
        Due.is("kind 32 with upper", v.kind(31), FULL);
        Due.is("no such class goes before FULL", v.kind(32), NONE);
        Due.is("FULL leaves 31 without a class under it", v.field(31, 0), 0);
        Due.is("greatest class type", v.field(31, 32), 1);
        Due.is("greatest row type", v.field(31, 96), 2);
        Due.is("type 33", v.field(31, 33), NONE);
    }

    private static void fieldsAreNumberedBehindThoseAbove() {
        CodeVerifier v = new CodeVerifier();
        v.kind(NONE);
        Due.is("field of 0", v.field(0, 0), 0);
        Due.is("second field of 0", v.field(0, 64), 1);
        v.kind(0);
        Due.is("field under two", v.field(1, 0), 2);
        v.kind(0);
        Due.is("a sister has the two above alone", v.field(2, 2), 2);
        v.kind(NONE);
        Due.is("a root has none above", v.field(3, 0), 0);
        v.method(NONE, NONE, 0, 3);
        Due.is("inherited field", v.op(0, 27, 1, 1), 0);
        Due.is("own field", v.op(0, 27, 1, 2), 1);
        Due.is("no such field", v.op(0, 27, 1, 3), NONE);
        Due.is("not of the upper class", v.op(0, 27, 0, 2), NONE);
    }

    private static void fieldsNeedAToldType() {
        CodeVerifier v = new CodeVerifier();
        Due.is("no class", v.field(0, 0), NONE);
        v.kind(NONE);
        int[] others = {-1, -2, 33, 63, 97, 98, 99, 100, 2, 66, 32, 96, Integer.MIN_VALUE, Integer.MAX_VALUE};
        for (int type : others) {
            Due.is("field of type " + type, v.field(0, type), NONE);
        }
        Due.is("no such class", v.field(1, 0), NONE);
        Due.is("class NONE", v.field(NONE, 0), NONE);
        Due.is("its own class", v.field(0, 1), 0);
        Due.is("a row of its own class", v.field(0, 65), 1);
        Due.is("a row of ints", v.field(0, 64), 2);
        Due.is("an int", v.field(0, 0), 3);
        v.kind(NONE);
        Due.is("a later class once it is there", v.field(0, 2), 4);
        Due.is("a row of it", v.field(0, 66), 5);
    }

    private static void fieldsEndWithAClassUnderOrAMethod() {
        CodeVerifier v = new CodeVerifier();
        v.kind(NONE);
        v.kind(0);
        v.kind(1);
        Due.is("a class under it", v.field(0, 0), NONE);
        Due.is("a class under it", v.field(1, 0), NONE);
        Due.is("the lowest", v.field(2, 0), 0);
        Due.is("a refused method", v.method(2, 99, 1, 1), NONE);
        Due.is("does not end fields", v.field(2, 0), 1);
        v.method(NONE, 3, 1, 1);
        Due.is("nor does one that gives it", v.field(2, 0), 2);
        v.method(2, NONE, 1, 1);
        Due.is("a method owns it", v.field(2, 0), NONE);
    }

    private static void fieldsAreAtMost15() {
        CodeVerifier v = new CodeVerifier();
        v.kind(NONE);
        for (int f = 0; f < 14; f++) {
            Due.is("field " + f, v.field(0, 0), f);
        }
        v.kind(0);
        Due.is("the fifteenth", v.field(1, 0), 14);
        Due.is("the sixteenth", v.field(1, 0), FULL);
        Due.is("another type goes before FULL", v.field(1, 99), NONE);
        v.kind(1);
        Due.is("fifteen from above", v.field(2, 0), FULL);
        Due.is("a class under it goes before FULL", v.field(1, 0), NONE);
    }
}
