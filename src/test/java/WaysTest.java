/** Promises 10 to 13: inherits, become, users, senders. */
public final class WaysTest {
    private static final Checks CHECKS = new Checks();

    public static void main(String[] args) {
        inherits();
        inheritsLongWays();
        become();
        becomeRefused();
        users();
        senders();
        CHECKS.end();
    }

    private static void inherits() {
        MethodBook x = new MethodBook();
        for (int k = 1; k <= 3; k++) {
            x.make(k, 2, true);
        }
        x.make(4, 1, true);
        x.make(5, 2, false);
        x.put(1, 0, 4);
        x.put(2, 0, 6);
        x.put(4, 0, 2);
        CHECKS.due("10: itself", x.inherits(2, 2), true);
        CHECKS.due("10: the next", x.inherits(2, 4), true);
        CHECKS.due("10: the last", x.inherits(2, 6), true);
        CHECKS.due("10: not one below", x.inherits(4, 2), false);
        CHECKS.due("10: nil never", x.inherits(2, 0), false);
        CHECKS.due("10: nil never, from nil", x.inherits(0, 0), false);
        CHECKS.due("10: nothing from nil", x.inherits(0, 2), false);
        x.put(3, 0, 9);
        CHECKS.due("10: a number on the way", x.inherits(2, 9), true);
        CHECKS.due("10: another number", x.inherits(2, 11), false);
        CHECKS.due("10: from a number", x.inherits(9, 9), true);
        CHECKS.due("10: from a number to another", x.inherits(9, 11), false);
        x.put(3, 0, 8);
        CHECKS.due("10: an object of one field", x.inherits(2, 8), true);
        CHECKS.due("10: not past it", x.inherits(8, 2), false);
        x.put(3, 0, 10);
        CHECKS.due("10: an object of bytes", x.inherits(2, 10), true);
        x.put(3, 1, 8);
        CHECKS.due("10: its dictionary is not on the way", x.inherits(6, 8), false);
        for (int v : new int[] {12, 800, 802, -2, Integer.MIN_VALUE}) {
            CHECKS.due("10: from no value " + v, x.inherits(v, v), false);
            CHECKS.due("10: to no value " + v, x.inherits(2, v), false);
        }
    }

    private static void inheritsLongWays() {
        MethodBook x = new MethodBook();
        for (int k = 1; k <= 101; k++) {
            x.make(k, 2, true);
            x.put(k - 1, 0, 2 * k);
        }
        CHECKS.due("10: the 100th", x.inherits(2, 200), true);
        CHECKS.due("10: the 101st", x.inherits(2, 202), false);
        x.put(100, 0, 77);
        CHECKS.due("10: a number as the 101st", x.inherits(2, 77), false);
        x.put(99, 0, 79);
        CHECKS.due("10: a number as the 100th", x.inherits(2, 79), true);
        x.put(99, 0, 2);
        CHECKS.due("10: in a ring, one of it", x.inherits(4, 2), true);
        CHECKS.due("10: in a ring, none of it", x.inherits(4, 202), false);
    }

    private static void become() {
        MethodBook x = new MethodBook();
        x.make(1, 3, true);
        x.make(2, 3, true);
        x.make(3, 2, false);
        x.make(400, 40, true);
        x.put(1, 0, 2);
        x.put(1, 1, 4);
        x.put(1, 2, 6);
        x.put(2, 0, 5);
        x.put(400, 39, 2);
        x.put(400, 0, 800);
        CHECKS.due("11: one with itself", x.become(1, 1), 0);
        CHECKS.due("11: its fields stay", x.get(1, 0), 2);
        CHECKS.due("11: two", x.become(1, 2), 3);
        CHECKS.due("11: the one became the other", x.get(1, 0), 4);
        CHECKS.due("11: and the other way round", x.get(1, 1), 2);
        CHECKS.due("11: another object stays", x.get(1, 2), 6);
        CHECKS.due("11: a field of a third", x.get(400, 39), 4);
        CHECKS.due("11: another field of it stays", x.get(400, 0), 800);
        CHECKS.due("11: numbers stay, each keeps its own fields", x.get(2, 0), 5);
        CHECKS.due("11: nil stays", x.get(2, 1), 0);
        CHECKS.due("11: one of bytes", x.become(400, 3), 2);
        CHECKS.due("11: became one of bytes", x.get(400, 0), 6);
        CHECKS.due("11: each keeps its kind", x.size(3), MethodBook.NONE);
        CHECKS.due("11: each keeps its size", x.size(400), 40);
        CHECKS.due("11: the other way round too", x.get(1, 2), 800);
        CHECKS.due("11: back again", x.become(3, 400), 2);
        CHECKS.due("11: as it was", x.get(400, 0), 800);
        x.make(400, 1, true);
        CHECKS.due("11: fields that are gone do not count", x.become(2, 1), 2);
    }

    private static void becomeRefused() {
        MethodBook x = new MethodBook();
        x.make(1, 2, true);
        x.put(1, 0, 2);
        for (int k : new int[] {Integer.MIN_VALUE, -1073741823, -1, 0, 2, 400, 401, 1073741825, Integer.MAX_VALUE}) {
            CHECKS.due("11: with none made, " + k, x.become(1, k), MethodBook.NONE);
            CHECKS.due("11: none made with, " + k, x.become(k, 1), MethodBook.NONE);
            CHECKS.due("11: none made with itself, " + k, x.become(k, k), MethodBook.NONE);
        }
        CHECKS.due("11: refused, fields stay", x.get(1, 0), 2);
        CHECKS.due("11: refused, nil stays", x.get(1, 1), 0);
    }

    private static void users() {
        MethodBook x = new MethodBook();
        x.make(1, 2, true);
        x.make(2, 40, true);
        x.make(3, 3, true);
        x.make(400, 2, true);
        x.put(1, 1, 6);
        x.put(2, 1, 6);
        x.put(400, 1, 6);
        x.put(3, 0, 2);
        x.put(3, 2, 2);
        CHECKS.due("12: users of 3", x.users(3), 3);
        CHECKS.due("12: users of one in other fields", x.users(1), 0);
        x.put(3, 1, 6);
        CHECKS.due("12: one of its own", x.users(3), 4);
        x.make(3, 40, false);
        CHECKS.due("12: one of bytes is a dictionary too", x.users(3), 3);
        x.make(400, 1, true);
        CHECKS.due("12: one of one field is no user", x.users(3), 2);
        x.put(1, 1, 0);
        CHECKS.due("12: a user less", x.users(3), 1);
        x.put(1, 1, 3);
        CHECKS.due("12: numbers are no objects", x.users(1), 0);
        for (int d : new int[] {Integer.MIN_VALUE, -2147483645, -1, 0, 5, 401, 1073741827, Integer.MAX_VALUE}) {
            CHECKS.due("12: users of " + d, x.users(d), 0);
        }
        x.become(3, 1);
        CHECKS.due("12: after places changed", x.users(1), 1);
    }

    private static void senders() {
        MethodBook x = new MethodBook();
        x.make(1, 2, true);
        x.make(2, 2, true);
        x.make(3, 5, true);
        x.make(400, 3, true);
        CHECKS.due("13: no dictionaries", x.senders(5), 0);
        x.put(1, 1, 6);
        x.put(400, 1, 6);
        x.put(2, 0, 2);
        x.put(3, 2, 5);
        x.put(3, 3, 7);
        x.put(3, 4, 9);
        CHECKS.due("13: two have it in their own", x.senders(5), 2);
        CHECKS.due("13: a method is none", x.senders(7), 0);
        CHECKS.due("13: a last single one is none", x.senders(9), 0);
        CHECKS.due("13: nil", x.senders(0), 2);
        x.put(3, 2, 2);
        CHECKS.due("13: an object", x.senders(2), 2);
        CHECKS.due("13: the selector that stood there is gone", x.senders(5), 0);
        for (int v : new int[] {8, 800, 802, -2, Integer.MIN_VALUE}) {
            CHECKS.due("13: none has " + v, x.senders(v), 0);
        }
        x.put(3, 2, 0);
        x.put(3, 1, 6);
        CHECKS.due("13: one that is its own dictionary, which has it twice", x.senders(0), 3);
        x.put(1, 1, 7);
        CHECKS.due("13: a number is no dictionary", x.senders(0), 2);
        x.make(400, 1, true);
        CHECKS.due("13: one of one field is none", x.senders(0), 1);
        x.make(4, 2, true);
        x.put(1, 0, 8);
        x.put(1, 1, 0);
        x.put(4, 1, 6);
        CHECKS.due("13: nothing is gone up", x.senders(0), 2);
        x.make(3, 40, false);
        CHECKS.due("13: bytes are no dictionary", x.senders(0), 0);
        x.make(3, 1, true);
        CHECKS.due("13: a single one is none", x.senders(0), 0);
        x.make(3, 2, true);
        CHECKS.due("13: fields again", x.senders(0), 1);
    }
}
