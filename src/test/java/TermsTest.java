/** "What it is" and "Terms": the bound of calls, values, objects, and calls that are refused. */
public final class TermsTest {
    private static final Checks CHECKS = new Checks();
    private static final int CALLS = 512;

    public static void main(String[] args) {
        lastCalls();
        laterCalls();
        changedSince();
        nil();
        numbers();
        objects();
        madeOrNot();
        fields();
        fieldsAreValues();
        bytes();
        refusedChangesNothing();
        refusedByLookUp();
        CHECKS.end();
    }

    /** Classes 1 and 2 of one dictionary, object 3, and a look-up that found; used for that many calls. */
    private static MethodBook used(int calls) {
        MethodBook x = new MethodBook();
        x.make(1, 2, true);
        x.make(2, 2, true);
        x.make(3, 2, true);
        x.put(1, 0, 4);
        x.put(1, 1, 6);
        x.put(2, 1, 6);
        x.put(3, 0, 5);
        x.put(3, 1, 7);
        x.lookUp(2, 5);
        for (int call = 9; call < calls; call++) {
            x.make(4 + call % 397, 40, call % 2 == 0);
        }
        return x;
    }

    private static void lastCalls() {
        CHECKS.sentence("An object is used for at most 512 calls after it has been made");
        int before = CALLS - 1;
        CHECKS.due("make, the 512th", used(before).make(400, 40, true), true);
        CHECKS.due("a refused make, the 512th", used(before).make(400, 41, true), false);
        CHECKS.due("put, the 512th", used(before).put(1, 0, 6), true);
        CHECKS.due("a refused put, the 512th", used(before).put(1, 2, 6), false);
        CHECKS.due("get, the 512th", used(before).get(1, 0), 4);
        CHECKS.due("size, the 512th", used(before).size(1), 2);
        CHECKS.due("lookUp, the 512th", used(before).lookUp(2, 5), 0);
        CHECKS.due("method, the 512th", used(before).method(), 7);
        CHECKS.due("where, the 512th", used(before).where(), 2);
        CHECKS.due("above, the 512th", used(before).above(5), 0);
        CHECKS.due("inherits, the 512th", used(before).inherits(2, 4), true);
        CHECKS.due("become, the 512th", used(before).become(1, 2), 1);
        CHECKS.due("users, the 512th", used(before).users(3), 2);
        CHECKS.due("senders, the 512th", used(before).senders(5), 2);
        MethodBook x = used(before - 1);
        CHECKS.due("above, the 511th", x.above(5), 0);
        CHECKS.due("where, the 512th, after it", x.where(), 4);
    }

    private static void laterCalls() {
        CHECKS.sentence("what later calls answer is free");
        MethodBook x = used(CALLS);
        boolean ended = false;
        for (int call = 0; call < 5000; call++) {
            x.make(call, call % 43, call % 3 != 0);
            x.put(call % 402, call % 41, call);
            x.lookUp(call, 5);
            x.above(5);
            ended = call == 4999;
        }
        CHECKS.due("they end, and throw nothing", ended, true);
    }

    private static void changedSince() {
        CHECKS.sentence("whatever was found before and whatever has changed since, in classes, dictionaries, or by"
            + " objects that changed places");
        MethodBook x = Books.threeClasses();
        x.lookUp(2, 71);
        CHECKS.due("again, nothing changed", x.lookUp(2, 71), 0);
        x.put(11, 1, 99);
        x.lookUp(2, 71);
        CHECKS.due("a method changed", x.method(), 99);
        x.put(11, 0, 73);
        CHECKS.due("a selector changed", x.lookUp(2, 71), 1);
        CHECKS.due("the selector that came", x.lookUp(2, 73), 0);
        x.become(11, 12);
        CHECKS.due("dictionaries changed places", x.lookUp(2, 71), 0);
        CHECKS.due("the method of the other", x.method(), 21);
        x.put(11, 0, 71);
        x.make(12, 4, true);
        CHECKS.due("a dictionary made anew", x.lookUp(2, 71), 1);
        CHECKS.due("the class with it", x.where(), 4);
        x.put(2, 1, 0);
        CHECKS.due("a dictionary taken away", x.lookUp(2, 71), 2);
        x.put(2, 1, 26);
        CHECKS.due("a dictionary put", x.lookUp(2, 71), 1);
        x.put(1, 0, 6);
        CHECKS.due("another class above", x.lookUp(2, 71), 1);
        CHECKS.due("which is found", x.where(), 6);
        x.become(2, 3);
        x.lookUp(2, 71);
        CHECKS.due("classes changed places", x.where(), 4);
        x.make(2, 2, true);
        CHECKS.due("a class made anew", x.lookUp(2, 71), MethodBook.NONE);
        x.make(2, 2, false);
        CHECKS.due("a class made bytes", x.lookUp(2, 71), MethodBook.BAD);
    }

    private static void nil() {
        CHECKS.sentence("NIL is 0");
        MethodBook x = new MethodBook();
        x.make(1, 4, true);
        x.put(1, 0, 9);
        CHECKS.due("put of nil", x.put(1, 0, 0), true);
        CHECKS.due("then get", x.get(1, 0), 0);
        CHECKS.due("lookUp from nil", x.lookUp(0, 5), MethodBook.NONE);
        x.put(1, 1, 2);
        x.put(1, 2, 0);
        x.put(1, 3, 9);
        CHECKS.due("lookUp of nil", x.lookUp(2, 0), 0);
        CHECKS.due("its method", x.method(), 2);
        CHECKS.due("nil is no object 0", x.size(0), MethodBook.NONE);
    }

    private static void numbers() {
        CHECKS.sentence("a NUMBER n (-1073741824 .. 1073741823) is 2 n + 1");
        for (int v : Books.NUMBERS) {
            MethodBook x = Books.threeClasses();
            CHECKS.due("put of " + v, x.put(13, 2, v), true);
            CHECKS.due("get of " + v, x.get(13, 2), v);
            CHECKS.due("put of the method " + v, x.put(13, 3, v), true);
            CHECKS.due("lookUp of " + v, x.lookUp(2, v), 2);
            CHECKS.due("method " + v, x.method(), v);
            CHECKS.due("lookUp from " + v, x.lookUp(v, 71), MethodBook.BAD);
            CHECKS.due("inherits from " + v, x.inherits(v, v), true);
            CHECKS.due("senders of " + v, x.senders(v), 1);
        }
    }

    private static void objects() {
        CHECKS.sentence("OBJECT k (1 .. 400) is 2 k");
        for (int k : new int[] {1, 2, 199, 200, 399, 400}) {
            MethodBook x = new MethodBook();
            x.make(k, 2, true);
            CHECKS.due("put of object " + k, x.put(k, 0, 2 * k), true);
            CHECKS.due("get of object " + k, x.get(k, 0), 2 * k);
            x.put(k, 1, 2 * k);
            CHECKS.due("lookUp from object " + k, x.lookUp(2 * k, 2 * k), 0);
            CHECKS.due("where is object " + k, x.where(), 2 * k);
            CHECKS.due("its method", x.method(), 2 * k);
            CHECKS.due("inherits", x.inherits(2 * k, 2 * k), true);
            CHECKS.due("users", x.users(k), 1);
            CHECKS.due("senders", x.senders(2 * k), 1);
        }
        MethodBook x = new MethodBook();
        for (int k : Books.NO_OBJECTS) {
            CHECKS.due("make of object " + k, x.make(k, 2, true), false);
        }
        x.make(1, 2, true);
        x.make(400, 2, true);
        for (int v : Books.NO_VALUES) {
            CHECKS.due("put of " + v, x.put(1, 0, v), false);
        }
    }

    private static void madeOrNot() {
        CHECKS.sentence("An object is MADE, or not");
        for (int k = 1; k <= 400; k++) {
            MethodBook x = new MethodBook();
            x.make(k % 400 + 1, 2, true);
            CHECKS.due("size before " + k + " is made", x.size(k), MethodBook.NONE);
            CHECKS.due("put of it, not made", x.put(k % 400 + 1, 0, 2 * k), false);
            CHECKS.due("make " + k, x.make(k, 3, true), true);
            CHECKS.due("size of " + k, x.size(k), 3);
            CHECKS.due("put of it, made", x.put(k % 400 + 1, 0, 2 * k), true);
        }
    }

    private static void fields() {
        CHECKS.sentence("one that is made is of FIELDS (0 .. 40), numbered from 0 on");
        for (int n = 0; n <= 40; n++) {
            MethodBook x = new MethodBook();
            CHECKS.due("make of " + n, x.make(7, n, true), true);
            CHECKS.due("size", x.size(7), n);
            for (int i = 0; i < n; i++) {
                CHECKS.due("put to field " + i, x.put(7, i, 2 * i + 1), true);
            }
            CHECKS.due("put to field -1 of " + n, x.put(7, -1, 5), false);
            CHECKS.due("put to field " + n, x.put(7, n, 5), false);
            for (int i = 0; i < n; i++) {
                CHECKS.due("get of field " + i, x.get(7, i), 2 * i + 1);
            }
        }
    }

    private static void fieldsAreValues() {
        CHECKS.sentence("each a value: nil, a number, or an object that is made");
        MethodBook x = new MethodBook();
        x.make(1, 1, true);
        x.make(2, 0, true);
        x.make(3, 5, false);
        for (int v : new int[] {0, 1, -2147483647, 2147483647, 2, 4, 6}) {
            CHECKS.due("put of " + v, x.put(1, 0, v), true);
            CHECKS.due("get of " + v, x.get(1, 0), v);
        }
        CHECKS.due("put of one not made", x.put(1, 0, 8), false);
        CHECKS.due("get after it", x.get(1, 0), 6);
        x.make(4, 0, true);
        CHECKS.due("put of it when it is made", x.put(1, 0, 8), true);
    }

    private static void bytes() {
        CHECKS.sentence("or of BYTES, and then has no fields");
        for (int n : new int[] {0, 1, 2, 40}) {
            MethodBook x = new MethodBook();
            x.make(1, 2, true);
            CHECKS.due("make of bytes " + n, x.make(2, n, false), true);
            CHECKS.due("size", x.size(2), MethodBook.NONE);
            CHECKS.due("put to field 0", x.put(2, 0, 0), false);
            CHECKS.due("put to field 1", x.put(2, 1, 1), false);
            CHECKS.due("get of field 0", x.get(2, 0), 0);
            CHECKS.due("it is a value", x.put(1, 0, 4), true);
            CHECKS.due("lookUp from it", x.lookUp(4, 5), MethodBook.BAD);
        }
    }

    /** Three classes with their dictionaries, one of bytes, one of no fields, and a look-up that found. */
    private static MethodBook beforeRefused() {
        MethodBook x = Books.threeClasses();
        x.make(20, 7, false);
        x.make(21, 0, true);
        x.lookUp(2, 85);
        return x;
    }

    /** All that can be asked of it. */
    private static String state(MethodBook x) {
        StringBuilder text = new StringBuilder();
        text.append(x.method()).append(' ').append(x.where()).append(':');
        for (int k = 1; k <= 400; k++) {
            text.append(x.size(k)).append(' ');
        }
        for (int k = 1; k <= 3; k++) {
            text.append(x.get(k, 0)).append(' ').append(x.get(k, 1)).append(' ');
            for (int i = 0; i < 4; i++) {
                text.append(x.get(k + 10, i)).append(' ');
            }
        }
        text.append(x.become(20, 20)).append(' ').append(x.become(22, 22)).append(' ');
        return text.append(x.above(71)).append(' ').append(x.where()).toString();
    }

    private static void dueAsBefore(String what, MethodBook x) {
        CHECKS.due("all there is after " + what, state(x), state(beforeRefused()));
    }

    private static void refusedChangesNothing() {
        CHECKS.sentence("A call that is refused changes nothing");
        for (int k : Books.NO_OBJECTS) {
            refusedMake(k, 2);
            refusedPut(k, 0, 1);
            refusedBecome(1, k);
            refusedBecome(k, 1);
        }
        for (int n : new int[] {Integer.MIN_VALUE, -1, 41, Integer.MAX_VALUE}) {
            refusedMake(1, n);
            refusedMake(11, n);
            refusedMake(20, n);
            refusedMake(22, n);
        }
        for (int v : Books.NO_VALUES) {
            refusedPut(1, 0, v);
            refusedPut(11, 3, v);
        }
        refusedPut(1, 0, 44);
        refusedPut(1, 2, 1);
        refusedPut(1, -1, 1);
        refusedPut(20, 0, 1);
        refusedPut(21, 0, 1);
        refusedPut(22, 0, 1);
        refusedBecome(1, 22);
        refusedBecome(22, 1);
        refusedBecome(22, 23);
    }

    private static void refusedMake(int k, int n) {
        for (boolean kind : new boolean[] {true, false}) {
            MethodBook x = beforeRefused();
            CHECKS.due("make " + k + ", " + n + ", " + kind, x.make(k, n, kind), false);
            dueAsBefore("make " + k + ", " + n + ", " + kind, x);
        }
    }

    private static void refusedPut(int k, int i, int v) {
        MethodBook x = beforeRefused();
        CHECKS.due("put " + k + ", " + i + ", " + v, x.put(k, i, v), false);
        dueAsBefore("put " + k + ", " + i + ", " + v, x);
    }

    private static void refusedBecome(int a, int b) {
        MethodBook x = beforeRefused();
        CHECKS.due("become " + a + ", " + b, x.become(a, b), MethodBook.NONE);
        dueAsBefore("become " + a + ", " + b, x);
    }

    private static void refusedByLookUp() {
        CHECKS.sentence("(but what was found, by lookUp())");
        MethodBook nothingFound = beforeRefused();
        nothingFound.lookUp(0, 71);
        String due = state(nothingFound);
        for (int v : Books.NO_VALUES) {
            MethodBook x = beforeRefused();
            CHECKS.due("lookUp from " + v, x.lookUp(v, 71), MethodBook.BAD);
            CHECKS.due("all there is, but what was found", state(x), due);
            x = beforeRefused();
            CHECKS.due("lookUp of " + v, x.lookUp(2, v), MethodBook.BAD);
            CHECKS.due("all there is, but what was found", state(x), due);
            x = beforeRefused();
            CHECKS.due("above, as lookUp(), of " + v, x.above(v), MethodBook.BAD);
            CHECKS.due("all there is, but what was found", state(x), due);
        }
    }
}
