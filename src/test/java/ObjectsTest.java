/** Promises 1 to 5: a new object, make, put, get, size. */
public final class ObjectsTest {
    private static final Checks CHECKS = new Checks();
    private static final int[] NO_OBJECTS = {Integer.MIN_VALUE, -1073741823, -1, 0, 401, 1073741825, Integer.MAX_VALUE};

    public static void main(String[] args) {
        newObject();
        make();
        makeAnew();
        put();
        putOfNoValue();
        get();
        size();
        CHECKS.end();
    }

    private static void newObject() {
        for (int k = -1; k <= 402; k++) {
            MethodBook x = new MethodBook();
            CHECKS.due("1: size of " + k, x.size(k), MethodBook.NONE);
            CHECKS.due("1: get of " + k, x.get(k, 0), 0);
            CHECKS.due("1: put to " + k, x.put(k, 0, 1), false);
            CHECKS.due("1: become of " + k, x.become(k, k), MethodBook.NONE);
            CHECKS.due("1: users of " + k, x.users(k), 0);
        }
        MethodBook x = new MethodBook();
        CHECKS.due("1: method", x.method(), 0);
        CHECKS.due("1: where", x.where(), 0);
        CHECKS.due("1: above", x.above(0), MethodBook.NONE);
        CHECKS.due("1: senders of nil", x.senders(0), 0);
        CHECKS.due("1: inherits", x.inherits(2, 2), false);
    }

    private static void make() {
        MethodBook x = new MethodBook();
        CHECKS.due("2: make 1 of no fields", x.make(1, 0, true), true);
        CHECKS.due("2: make 400 of 40 fields", x.make(400, 40, true), true);
        CHECKS.due("2: its size", x.size(400), 40);
        CHECKS.due("2: make 200 of bytes", x.make(200, 40, false), true);
        for (int k : NO_OBJECTS) {
            CHECKS.due("2: make " + k, x.make(k, 2, true), false);
            CHECKS.due("2: make of bytes " + k, x.make(k, 2, false), false);
        }
        for (int n : new int[] {Integer.MIN_VALUE, -1, 41, Integer.MAX_VALUE}) {
            CHECKS.due("2: make of fields " + n, x.make(400, n, true), false);
            CHECKS.due("2: make of bytes " + n, x.make(400, n, false), false);
            CHECKS.due("2: make of what was not, " + n, x.make(5, n, true), false);
        }
        CHECKS.due("2: refused, the size stays", x.size(400), 40);
        CHECKS.due("2: refused, none is made", x.become(5, 5), MethodBook.NONE);
    }

    private static void makeAnew() {
        MethodBook x = new MethodBook();
        x.make(1, 3, true);
        x.make(2, 3, true);
        x.put(1, 0, 4);
        x.put(2, 0, 4);
        x.put(2, 2, 9);
        CHECKS.due("2: make anew", x.make(2, 3, true), true);
        CHECKS.due("2: what it was is gone", x.get(2, 0), 0);
        CHECKS.due("2: what it was is gone, in the last field", x.get(2, 2), 0);
        CHECKS.due("2: fields that had it have the new one", x.get(1, 0), 4);
        x.make(2, 1, true);
        CHECKS.due("2: smaller, its size", x.size(2), 1);
        CHECKS.due("2: smaller, a field beyond", x.put(2, 1, 3), false);
        x.make(2, 5, true);
        CHECKS.due("2: larger, its size", x.size(2), 5);
        CHECKS.due("2: larger, its last field", x.put(2, 4, 3), true);
        x.make(2, 5, false);
        CHECKS.due("2: of bytes, a field that was", x.get(2, 4), 0);
        CHECKS.due("2: of bytes, its size", x.size(2), MethodBook.NONE);
        CHECKS.due("2: of bytes it is made", x.become(1, 2), 1);
        x.make(2, 5, true);
        CHECKS.due("2: of fields again, all nil", x.get(2, 4), 0);
    }

    private static void put() {
        MethodBook x = new MethodBook();
        x.make(1, 2, true);
        x.make(2, 0, true);
        x.make(3, 2, false);
        x.make(400, 1, true);
        for (int v : new int[] {0, 1, -1, 801, 803, Integer.MAX_VALUE, -2147483647, 2, 4, 6, 800}) {
            CHECKS.due("3: put of the value " + v, x.put(1, 1, v), true);
            CHECKS.due("3: then get", x.get(1, 1), v);
            CHECKS.due("3: the field beside it", x.get(1, 0), 0);
        }
        for (int i : new int[] {Integer.MIN_VALUE, -1, 2, 39, 40, Integer.MAX_VALUE}) {
            CHECKS.due("3: put to field " + i, x.put(1, i, 1), false);
        }
        CHECKS.due("3: put to an object of no fields", x.put(2, 0, 1), false);
        CHECKS.due("3: put to one of bytes", x.put(3, 0, 1), false);
        CHECKS.due("3: put to one not made", x.put(4, 0, 1), false);
        for (int k : NO_OBJECTS) {
            CHECKS.due("3: put to object " + k, x.put(k, 0, 1), false);
        }
        CHECKS.due("3: the field stays", x.get(1, 1), 800);
    }

    private static void putOfNoValue() {
        MethodBook x = new MethodBook();
        x.make(1, 2, true);
        x.put(1, 0, 7);
        for (int v : new int[] {4, 800, 802, 804, -2, -4, -800, Integer.MIN_VALUE, Integer.MAX_VALUE - 1, 65538}) {
            CHECKS.due("3: put of no value " + v, x.put(1, 0, v), false);
            CHECKS.due("3: refused, the field stays", x.get(1, 0), 7);
        }
        CHECKS.due("3: put of itself", x.put(1, 0, 2), true);
    }

    private static void get() {
        MethodBook x = new MethodBook();
        x.make(1, 40, true);
        for (int i = 0; i < 40; i++) {
            CHECKS.due("4: nil at first, " + i, x.get(1, i), 0);
            x.put(1, i, 2 * i + 1);
        }
        for (int i = 0; i < 40; i++) {
            CHECKS.due("4: field " + i, x.get(1, i), 2 * i + 1);
        }
        for (int i : new int[] {Integer.MIN_VALUE, -1, 40, 41, Integer.MAX_VALUE}) {
            CHECKS.due("4: no field " + i, x.get(1, i), 0);
        }
        for (int k : NO_OBJECTS) {
            CHECKS.due("4: no object " + k, x.get(k, 1), 0);
        }
        CHECKS.due("4: one not made", x.get(2, 1), 0);
        x.make(2, 40, false);
        CHECKS.due("4: one of bytes", x.get(2, 1), 0);
    }

    private static void size() {
        MethodBook x = new MethodBook();
        for (int n = 0; n <= 40; n++) {
            x.make(n + 1, n, true);
            x.make(n + 101, n, false);
            CHECKS.due("5: size of " + n, x.size(n + 1), n);
            CHECKS.due("5: size of bytes " + n, x.size(n + 101), MethodBook.NONE);
        }
        for (int k : NO_OBJECTS) {
            CHECKS.due("5: size of object " + k, x.size(k), MethodBook.NONE);
        }
        CHECKS.due("5: size of one not made", x.size(400), MethodBook.NONE);
    }
}
