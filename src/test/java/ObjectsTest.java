/** Promises 1 to 5: a new object, make, put, get, size. */
public final class ObjectsTest {
    private static final Checks CHECKS = new Checks();
    private static final int[] NO_COUNTS = {Integer.MIN_VALUE, -41, -2, -1, 41, 42, 400, Integer.MAX_VALUE};

    public static void main(String[] args) {
        noObjectIsMade();
        eachBookOfItsOwn();
        nothingWasLookedUp();
        allNil();
        ofBytes();
        whatItWasIsGone();
        haveTheNewOne();
        makeAnswers();
        becomes();
        noSuchField();
        noValue();
        get();
        noneSuch();
        size();
        noSize();
        CHECKS.end();
    }

    private static void noObjectIsMade() {
        CHECKS.sentence("Promise 1: No object is made");
        MethodBook x = new MethodBook();
        for (int k = -1; k <= 402; k++) {
            CHECKS.due("size of " + k, x.size(k), MethodBook.NONE);
        }
        for (int k = 1; k <= 400; k++) {
            x = new MethodBook();
            CHECKS.due("get of " + k, x.get(k, 0), 0);
            CHECKS.due("put to " + k, x.put(k, 0, 1), false);
            CHECKS.due("become of " + k, x.become(k, k), MethodBook.NONE);
            CHECKS.due("users of " + k, x.users(k), 0);
            CHECKS.due("lookUp from " + k, x.lookUp(2 * k, 5), MethodBook.BAD);
            CHECKS.due("lookUp of " + k, x.lookUp(0, 2 * k), MethodBook.BAD);
            CHECKS.due("inherits from " + k, x.inherits(2 * k, 2 * k), false);
        }
        CHECKS.due("senders of nil", new MethodBook().senders(0), 0);
        CHECKS.due("senders of a number", new MethodBook().senders(5), 0);
    }

    private static void eachBookOfItsOwn() {
        CHECKS.sentence("Promise 1: No object is made (nor by another book)");
        MethodBook x = Books.threeClasses();
        x.lookUp(2, 71);
        MethodBook y = new MethodBook();
        CHECKS.due("size", y.size(1), MethodBook.NONE);
        CHECKS.due("where", y.where(), 0);
        y.make(1, 0, true);
        y.lookUp(2, 71);
        CHECKS.due("size beside another", x.size(1), 2);
        CHECKS.due("method beside another", x.method(), 11);
        CHECKS.due("where beside another", x.where(), 2);
    }

    private static void nothingWasLookedUp() {
        CHECKS.sentence("Promise 1: nothing was looked up");
        CHECKS.due("method", new MethodBook().method(), 0);
        CHECKS.due("where", new MethodBook().where(), 0);
        CHECKS.due("above", new MethodBook().above(0), MethodBook.NONE);
        MethodBook x = new MethodBook();
        x.make(1, 2, true);
        x.put(1, 0, 2);
        x.put(1, 1, 2);
        CHECKS.due("method, of objects that are made", x.method(), 0);
        CHECKS.due("where, of objects that are made", x.where(), 0);
        CHECKS.due("above, of objects that are made", x.above(2), MethodBook.NONE);
    }

    private static void allNil() {
        CHECKS.sentence("Promise 2: Object k is made, of n fields, all nil");
        for (int n = 0; n <= 40; n++) {
            for (int k : new int[] {1, 2, 200, 399, 400}) {
                MethodBook x = new MethodBook();
                CHECKS.due("make " + k + ", " + n, x.make(k, n, true), true);
                CHECKS.due("its size", x.size(k), n);
                CHECKS.due("the object before it", x.size(k - 1), MethodBook.NONE);
                CHECKS.due("the object behind it", x.size(k + 1), MethodBook.NONE);
                for (int i = 0; i < n; i++) {
                    CHECKS.due("field " + i, x.get(k, i), 0);
                    CHECKS.due("put to it", x.put(k, i, 0), true);
                }
            }
        }
    }

    private static void ofBytes() {
        CHECKS.sentence("Promise 2: or else of bytes (n, which must be 0 .. 40 all the same, does not count then)");
        for (int n = 0; n <= 40; n++) {
            MethodBook x = new MethodBook();
            CHECKS.due("make of bytes " + n, x.make(1, n, false), true);
            CHECKS.due("its size", x.size(1), MethodBook.NONE);
            CHECKS.due("put to field 0", x.put(1, 0, 1), false);
            CHECKS.due("lookUp from it", x.lookUp(2, 1), MethodBook.BAD);
            CHECKS.due("it is made", x.become(1, 1), 0);
        }
        for (int n : NO_COUNTS) {
            MethodBook x = new MethodBook();
            CHECKS.due("make of bytes " + n, x.make(1, n, false), false);
            CHECKS.due("it is not made", x.become(1, 1), MethodBook.NONE);
        }
    }

    private static void whatItWasIsGone() {
        CHECKS.sentence("Promise 2: what it was is gone");
        for (int n : new int[] {0, 1, 2, 3, 39, 40}) {
            MethodBook x = Books.dictionaryOf(3);
            CHECKS.due("make anew, of " + n, x.make(2, n, true), true);
            CHECKS.due("its size", x.size(2), n);
            for (int i = 0; i < 40; i++) {
                CHECKS.due("field " + i + " of " + n, x.get(2, i), 0);
            }
            CHECKS.due("put to its field " + n, x.put(2, n, 1), false);
            CHECKS.due("put to its last field", x.put(2, n - 1, 1), n > 0);
            CHECKS.due("lookUp of what it held", x.lookUp(2, 101), MethodBook.NONE);
            x.make(2, n, false);
            CHECKS.due("bytes, its size", x.size(2), MethodBook.NONE);
            CHECKS.due("bytes, its last field", x.get(2, n - 1), 0);
            CHECKS.due("bytes, put", x.put(2, 0, 1), false);
            CHECKS.due("bytes, lookUp", x.lookUp(2, 101), MethodBook.BAD);
            x.make(2, n, true);
            CHECKS.due("fields again, its size", x.size(2), n);
            CHECKS.due("fields again, its last field", x.get(2, n - 1), 0);
            CHECKS.due("fields again, lookUp", x.lookUp(2, 101), MethodBook.NONE);
        }
    }

    private static void haveTheNewOne() {
        CHECKS.sentence("Promise 2: and all fields that had it have the new one");
        MethodBook x = new MethodBook();
        x.make(1, 40, true);
        x.make(2, 3, true);
        for (int i = 0; i < 40; i++) {
            x.put(1, i, 4);
        }
        x.make(2, 2, true);
        for (int i = 0; i < 40; i++) {
            CHECKS.due("field " + i, x.get(1, i), 4);
        }
        CHECKS.due("its users", x.users(2), 1);
        x.put(2, 0, 5);
        x.put(2, 1, 7);
        CHECKS.due("lookUp by the new dictionary", x.lookUp(2, 5), 0);
        CHECKS.due("its method", x.method(), 7);
        x.make(2, 0, false);
        CHECKS.due("a field that has the new one, of bytes", x.get(1, 39), 4);
        CHECKS.due("lookUp by the new one, of bytes", x.lookUp(2, 5), MethodBook.BAD);
    }

    private static void makeAnswers() {
        CHECKS.sentence("Promise 2: Answers true; false when k is not 1 .. 400, or n is not 0 .. 40");
        for (boolean kind : new boolean[] {true, false}) {
            MethodBook x = new MethodBook();
            for (int k : Books.NO_OBJECTS) {
                CHECKS.due("make " + k + ", 2, " + kind, x.make(k, 2, kind), false);
                CHECKS.due("make " + k + ", 41, " + kind, x.make(k, 41, kind), false);
            }
            for (int n : NO_COUNTS) {
                CHECKS.due("make 1, " + n + ", " + kind, x.make(1, n, kind), false);
                CHECKS.due("make 400, " + n + ", " + kind, x.make(400, n, kind), false);
            }
            CHECKS.due("none is made", x.size(1) == MethodBook.NONE && x.become(1, 1) == MethodBook.NONE, true);
            for (int k : new int[] {1, 400}) {
                CHECKS.due("make " + k + ", 0, " + kind, x.make(k, 0, kind), true);
                CHECKS.due("make " + k + ", 40, " + kind, x.make(k, 40, kind), true);
                CHECKS.due("make " + k + " once more, " + kind, x.make(k, 40, kind), true);
            }
        }
    }

    private static void becomes() {
        CHECKS.sentence("Promise 3: Field i of object k becomes v");
        MethodBook x = new MethodBook();
        x.make(1, 40, true);
        x.make(2, 40, true);
        for (int i = 0; i < 40; i++) {
            CHECKS.due("put to field " + i, x.put(1, i, 2 * i + 1), true);
            CHECKS.due("then get", x.get(1, i), 2 * i + 1);
            CHECKS.due("the field behind it", x.get(1, i + 1), 0);
            CHECKS.due("that of another object", x.get(2, i), 0);
        }
        CHECKS.due("put once more", x.put(1, 20, 4), true);
        CHECKS.due("then get", x.get(1, 20), 4);
        CHECKS.due("the field before it", x.get(1, 19), 39);
        CHECKS.due("the field behind it", x.get(1, 21), 43);
        CHECKS.due("put of what stands there", x.put(1, 20, 4), true);
        CHECKS.due("put of nil", x.put(1, 20, 0), true);
        CHECKS.due("then get", x.get(1, 20), 0);
        CHECKS.due("put of the object itself", x.put(1, 20, 2), true);
        CHECKS.due("then get", x.get(1, 20), 2);
    }

    private static void noSuchField() {
        CHECKS.sentence("Promise 3: Answers true; false when there is no such field");
        MethodBook x = new MethodBook();
        x.make(2, 0, true);
        x.make(3, 40, false);
        for (int k : Books.NO_OBJECTS) {
            CHECKS.due("put to object " + k, x.put(k, 0, 1), false);
        }
        CHECKS.due("put to an object of no fields", x.put(2, 0, 1), false);
        CHECKS.due("put to one of bytes", x.put(3, 0, 1), false);
        CHECKS.due("put to the last field that bytes could have", x.put(3, 39, 1), false);
        CHECKS.due("put to one not made", x.put(4, 0, 1), false);
        for (int n : new int[] {1, 2, 3, 39, 40}) {
            x.make(1, n, true);
            CHECKS.due("put to the first of " + n, x.put(1, 0, 1), true);
            CHECKS.due("put to the last of " + n, x.put(1, n - 1, 1), true);
            for (int i : new int[] {Integer.MIN_VALUE, -n, -1, n, n + 1, 40, 41, Integer.MAX_VALUE}) {
                CHECKS.due("put to field " + i + " of " + n, x.put(1, i, 1), false);
            }
        }
    }

    private static void noValue() {
        CHECKS.sentence("Promise 3: or v is no value (an object that is not made, an even number below 0 or above"
            + " 800)");
        MethodBook x = new MethodBook();
        x.make(1, 2, true);
        x.put(1, 0, 7);
        for (int v : Books.NO_VALUES) {
            CHECKS.due("put of " + v, x.put(1, 0, v), false);
            CHECKS.due("then get", x.get(1, 0), 7);
        }
        for (int v : new int[] {4, 6, 400, 798, 800}) {
            CHECKS.due("put of one not made, " + v, x.put(1, 0, v), false);
            CHECKS.due("then get", x.get(1, 0), 7);
            x.make(v / 2, 0, v % 4 == 0);
            CHECKS.due("put of it when it is made", x.put(1, 0, v), true);
            CHECKS.due("then get", x.get(1, 0), v);
            x.put(1, 0, 7);
        }
        for (int v : Books.NUMBERS) {
            CHECKS.due("put of an odd number, " + v, x.put(1, 1, v), true);
        }
        CHECKS.due("put of no value to no field", x.put(1, 2, 802), false);
    }

    private static void get() {
        CHECKS.sentence("Promise 4: Field i of object k");
        MethodBook x = new MethodBook();
        x.make(1, 40, true);
        x.make(400, 3, true);
        for (int i = 0; i < 40; i++) {
            x.put(1, i, 2 * i + 1);
        }
        for (int i = 0; i < 40; i++) {
            CHECKS.due("field " + i, x.get(1, i), 2 * i + 1);
        }
        x.put(400, 0, 2);
        x.put(400, 1, -2147483647);
        x.put(400, 2, 800);
        CHECKS.due("an object", x.get(400, 0), 2);
        CHECKS.due("the least number", x.get(400, 1), -2147483647);
        CHECKS.due("itself", x.get(400, 2), 800);
        CHECKS.due("once more, it stays", x.get(400, 2), 800);
    }

    private static void noneSuch() {
        CHECKS.sentence("Promise 4: 0 when there is none such");
        MethodBook x = new MethodBook();
        for (int n : new int[] {0, 1, 2, 39, 40}) {
            x.make(1, n, true);
            x.put(1, n - 1, 9);
            x.put(1, 0, 9);
            for (int i : new int[] {Integer.MIN_VALUE, -n - 1, -1, n, n + 1, 40, 41, Integer.MAX_VALUE}) {
                CHECKS.due("field " + i + " of " + n, x.get(1, i), 0);
            }
            for (int k : Books.NO_OBJECTS) {
                CHECKS.due("field 0 of object " + k, x.get(k, 0), 0);
            }
        }
        CHECKS.due("of one not made", x.get(2, 0), 0);
        x.make(2, 40, false);
        CHECKS.due("of bytes", x.get(2, 0), 0);
        CHECKS.due("of bytes, the last", x.get(2, 39), 0);
    }

    private static void size() {
        CHECKS.sentence("Promise 5: How many fields object k has");
        MethodBook x = new MethodBook();
        for (int n = 0; n <= 40; n++) {
            x.make(400 - n, n, true);
            CHECKS.due("size of " + n, x.size(400 - n), n);
            x.put(400 - n, n - 1, 1);
            CHECKS.due("size after put", x.size(400 - n), n);
        }
        for (int n = 0; n <= 40; n++) {
            CHECKS.due("size of " + n + ", beside others", x.size(400 - n), n);
        }
    }

    private static void noSize() {
        CHECKS.sentence("Promise 5: NONE when it is not made, or of bytes");
        MethodBook x = new MethodBook();
        x.make(1, 2, true);
        for (int k : Books.NO_OBJECTS) {
            CHECKS.due("size of object " + k, x.size(k), MethodBook.NONE);
        }
        for (int k : new int[] {2, 3, 399, 400}) {
            CHECKS.due("size of one not made, " + k, x.size(k), MethodBook.NONE);
            x.make(k, 0, true);
            CHECKS.due("size of no fields", x.size(k), 0);
        }
        for (int n = 0; n <= 40; n++) {
            x.make(1, n, false);
            CHECKS.due("size of bytes " + n, x.size(1), MethodBook.NONE);
        }
    }
}
