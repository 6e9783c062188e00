/** Promises 6 to 9: lookUp, method, where, above. */
public final class LookUpTest {
    private static final Checks CHECKS = new Checks();

    public static void main(String[] args) {
        found();
        notFound();
        bad();
        noValue();
        dictionaries();
        afterChanges();
        longWays();
        foundNoMore();
        above();
        aboveAfterChanges();
        CHECKS.end();
    }

    /** Classes 1, 2, 3, each above the one before, with the dictionaries 11, 12, 13 of two methods each. */
    private static MethodBook threeClasses() {
        MethodBook x = new MethodBook();
        for (int k = 1; k <= 3; k++) {
            x.make(k, 2, true);
            x.make(k + 10, 4, true);
            x.put(k, 1, 2 * (k + 10));
            x.put(k + 10, 0, 71);
            x.put(k + 10, 1, 10 * k + 1);
            x.put(k + 10, 2, 80 + 2 * k + 1);
            x.put(k + 10, 3, 10 * k + 3);
        }
        x.put(1, 0, 4);
        x.put(2, 0, 6);
        return x;
    }

    private static void dueFound(String what, MethodBook x, int method, int where) {
        CHECKS.due("7: method, " + what, x.method(), method);
        CHECKS.due("8: where, " + what, x.where(), where);
    }

    private static void found() {
        MethodBook x = threeClasses();
        CHECKS.due("6: found at once", x.lookUp(2, 71), 0);
        dueFound("at once", x, 11, 2);
        CHECKS.due("6: in the second place", x.lookUp(2, 83), 0);
        dueFound("in the second place", x, 13, 2);
        CHECKS.due("6: after one class", x.lookUp(2, 85), 1);
        dueFound("after one", x, 23, 4);
        CHECKS.due("6: after two classes", x.lookUp(2, 87), 2);
        dueFound("after two", x, 33, 6);
        CHECKS.due("6: from the second", x.lookUp(4, 71), 0);
        dueFound("from the second", x, 21, 4);
        x.put(13, 2, 26);
        x.put(13, 3, 24);
        CHECKS.due("6: a selector that is an object", x.lookUp(2, 26), 2);
        dueFound("a method that is an object", x, 24, 6);
        x.put(13, 3, 0);
        CHECKS.due("6: a method that is nil", x.lookUp(2, 26), 2);
        dueFound("a method that is nil", x, 0, 6);
    }

    private static void notFound() {
        MethodBook x = threeClasses();
        CHECKS.due("6: from nil", x.lookUp(0, 71), MethodBook.NONE);
        CHECKS.due("6: no such selector", x.lookUp(2, 91), MethodBook.NONE);
        dueFound("nothing", x, 0, 0);
        CHECKS.due("6: a class below is not looked at", x.lookUp(4, 83), MethodBook.NONE);
        CHECKS.due("6: a method is no selector", x.lookUp(2, 11), MethodBook.NONE);
        CHECKS.due("6: nil is no selector here", x.lookUp(2, 0), MethodBook.NONE);
        x.put(2, 1, 0);
        CHECKS.due("6: past a class of no dictionary", x.lookUp(2, 87), 2);
        x.put(1, 0, 0);
        CHECKS.due("6: up to nil", x.lookUp(2, 87), MethodBook.NONE);
    }

    private static void bad() {
        MethodBook x = threeClasses();
        x.make(20, 2, false);
        x.make(21, 1, true);
        x.make(22, 0, true);
        for (int from : new int[] {1, 5, -1, 40, 42, 44}) {
            CHECKS.due("6: from no class, " + from, x.lookUp(from, 71), MethodBook.BAD);
            dueFound("bad", x, 0, 0);
        }
        for (int above : new int[] {1, 5, -1, 40, 42, 44}) {
            x.put(2, 0, above);
            CHECKS.due("6: no class above, " + above, x.lookUp(2, 91), MethodBook.BAD);
            CHECKS.due("6: found below it", x.lookUp(2, 85), 1);
        }
        x.put(2, 0, 6);
        for (int dictionary : new int[] {1, -5, 40}) {
            x.put(2, 1, dictionary);
            CHECKS.due("6: no dictionary, " + dictionary, x.lookUp(2, 87), MethodBook.BAD);
            CHECKS.due("6: found below it", x.lookUp(2, 83), 0);
            CHECKS.due("6: found above it", x.lookUp(6, 87), 0);
        }
        for (int dictionary : new int[] {0, 42, 44}) {
            x.put(2, 1, dictionary);
            CHECKS.due("6: a dictionary of nothing, " + dictionary, x.lookUp(2, 87), 2);
        }
    }

    private static void noValue() {
        MethodBook x = threeClasses();
        for (int v : new int[] {8, 800, 802, -2, -4, Integer.MIN_VALUE, Integer.MAX_VALUE - 1}) {
            CHECKS.due("6: from no value " + v, x.lookUp(v, 71), MethodBook.BAD);
            CHECKS.due("6: a selector of no value " + v, x.lookUp(2, v), MethodBook.BAD);
            CHECKS.due("6: from nil, a selector of no value " + v, x.lookUp(0, v), MethodBook.BAD);
            dueFound("no value", x, 0, 0);
        }
        CHECKS.due("6: the least number", x.lookUp(2, -2147483647), MethodBook.NONE);
        CHECKS.due("6: the greatest number", x.lookUp(2, Integer.MAX_VALUE), MethodBook.NONE);
    }

    private static void dictionaries() {
        MethodBook x = new MethodBook();
        x.make(1, 2, true);
        x.make(2, 5, true);
        x.put(1, 1, 4);
        x.put(2, 0, 5);
        x.put(2, 1, 11);
        x.put(2, 2, 5);
        x.put(2, 3, 13);
        x.put(2, 4, 17);
        CHECKS.due("6: the first of two", x.lookUp(2, 5), 0);
        dueFound("the first of two", x, 11, 2);
        CHECKS.due("6: a last single one is nothing", x.lookUp(2, 17), MethodBook.NONE);
        x.put(1, 1, 2);
        CHECKS.due("6: its own dictionary", x.lookUp(2, 0), 0);
        dueFound("its own dictionary", x, 2, 2);
        x.make(3, 40, true);
        x.put(1, 1, 6);
        for (int i = 0; i < 40; i++) {
            x.put(3, i, 2 * i + 101);
        }
        for (int i = 0; i < 40; i++) {
            CHECKS.due("6: a full dictionary, " + i, x.lookUp(2, 2 * i + 101), i % 2 == 0 ? 0 : MethodBook.NONE);
            CHECKS.due("7: its method, " + i, x.method(), i % 2 == 0 ? 2 * i + 103 : 0);
        }
    }

    private static void afterChanges() {
        MethodBook x = threeClasses();
        x.lookUp(2, 71);
        x.put(11, 1, 99);
        dueFound("what was found stays when its field changes", x, 11, 2);
        x.become(1, 2);
        dueFound("and when places change", x, 11, 2);
        x.become(1, 2);
        x.make(1, 0, true);
        dueFound("and when the class is made anew", x, 11, 2);
        CHECKS.due("6: now there is no class", x.lookUp(2, 71), MethodBook.BAD);
        x = threeClasses();
        x.lookUp(2, 71);
        x.put(11, 1, 99);
        x.lookUp(2, 71);
        dueFound("the new method", x, 99, 2);
        x.put(11, 0, 73);
        CHECKS.due("6: the selector is gone", x.lookUp(2, 71), 1);
        x.become(11, 12);
        CHECKS.due("6: the dictionaries changed places", x.lookUp(2, 71), 0);
        dueFound("of the other dictionary", x, 21, 2);
        x.make(12, 4, true);
        CHECKS.due("6: the dictionary is made anew", x.lookUp(2, 71), 2);
    }

    /** The classes 1 to count, each above the one before; the last has a dictionary, object 400. */
    private static MethodBook longWay(int count) {
        MethodBook x = new MethodBook();
        x.make(400, 2, true);
        x.put(400, 0, 5);
        x.put(400, 1, 7);
        for (int k = 1; k <= count; k++) {
            x.make(k, 2, true);
            if (k > 1) {
                x.put(k - 1, 0, 2 * k);
            }
        }
        x.put(count, 1, 800);
        return x;
    }

    private static void longWays() {
        MethodBook x = longWay(101);
        CHECKS.due("6: in the 100th class", x.lookUp(4, 5), 99);
        dueFound("in the 100th class", x, 7, 202);
        CHECKS.due("6: past the 100th class, nil", x.lookUp(4, 9), MethodBook.NONE);
        CHECKS.due("6: in the 101st class", x.lookUp(2, 5), MethodBook.BAD);
        dueFound("in the 101st class", x, 0, 0);
        CHECKS.due("6: past the 101st class", x.lookUp(2, 9), MethodBook.BAD);
        x.put(101, 0, 9);
        CHECKS.due("6: past the 100th class, a number", x.lookUp(4, 9), MethodBook.BAD);
        x.put(101, 0, 4);
        CHECKS.due("6: in a ring", x.lookUp(4, 9), MethodBook.BAD);
        x.put(1, 0, 2);
        CHECKS.due("6: in a ring of one", x.lookUp(2, 9), MethodBook.BAD);
        x.lookUp(202, 5);
        x.put(101, 0, 2);
        CHECKS.due("9: above, in a ring of one", x.above(9), MethodBook.BAD);
    }

    private static void foundNoMore() {
        MethodBook x = threeClasses();
        int[][] looked = {{2, 91}, {0, 71}, {3, 71}, {802, 71}, {2, 802}};
        for (int[] pair : looked) {
            x.lookUp(2, 71);
            x.lookUp(pair[0], pair[1]);
            dueFound("no more, after " + pair[0] + ", " + pair[1], x, 0, 0);
            CHECKS.due("9: above nothing", x.above(71), MethodBook.NONE);
        }
        x.lookUp(2, 71);
        x.make(0, 0, true);
        x.put(1, 0, 802);
        x.become(1, 99);
        x.senders(71);
        x.users(11);
        x.inherits(2, 4);
        x.get(1, 1);
        x.size(1);
        dueFound("still, after other calls", x, 11, 2);
    }

    private static void above() {
        MethodBook x = threeClasses();
        CHECKS.due("9: nothing was looked up", x.above(71), MethodBook.NONE);
        CHECKS.due("9: nothing was found, a selector of no value", x.above(802), MethodBook.NONE);
        x.lookUp(2, 71);
        CHECKS.due("9: above the first", x.above(71), 0);
        dueFound("above the first", x, 21, 4);
        CHECKS.due("9: above the second", x.above(71), 0);
        dueFound("above the second", x, 31, 6);
        CHECKS.due("9: above the last", x.above(71), MethodBook.NONE);
        dueFound("above the last", x, 0, 0);
        x.lookUp(2, 71);
        CHECKS.due("9: another selector", x.above(87), 1);
        dueFound("another selector", x, 33, 6);
        x.lookUp(2, 85);
        CHECKS.due("9: above where it was found", x.above(71), 0);
        dueFound("above where it was found", x, 31, 6);
        x.lookUp(2, 71);
        CHECKS.due("9: a selector below alone", x.above(83), MethodBook.NONE);
        x.lookUp(2, 71);
        CHECKS.due("9: a selector of no value", x.above(802), MethodBook.BAD);
        dueFound("a selector of no value", x, 0, 0);
        x.lookUp(6, 71);
        CHECKS.due("9: above the last, a selector of no value", x.above(800), MethodBook.BAD);
        x.put(12, 1, 0);
        x.lookUp(4, 71);
        CHECKS.due("9: above where nil was found", x.above(71), 0);
        dueFound("above where nil was found", x, 31, 6);
    }

    private static void aboveAfterChanges() {
        MethodBook x = threeClasses();
        x.lookUp(2, 71);
        x.put(1, 0, 6);
        CHECKS.due("9: field 0 as it is now", x.above(71), 0);
        dueFound("field 0 as it is now", x, 31, 6);
        x.lookUp(2, 71);
        x.put(1, 0, 7);
        CHECKS.due("9: a number", x.above(71), MethodBook.BAD);
        int[] counts = {0, 1, 1, 2};
        boolean[] kinds = {true, true, false, false};
        for (int i = 0; i < counts.length; i++) {
            x = threeClasses();
            x.lookUp(2, 71);
            x.make(1, counts[i], kinds[i]);
            CHECKS.due("9: the class is made anew, " + i, x.above(71), MethodBook.NONE);
        }
        x = threeClasses();
        x.lookUp(2, 71);
        x.make(1, 1, true);
        x.put(1, 0, 6);
        CHECKS.due("9: the class has one field", x.above(71), 0);
        dueFound("the class has one field", x, 31, 6);
        x = threeClasses();
        x.lookUp(2, 71);
        x.become(1, 3);
        CHECKS.due("9: the class changed places", x.above(71), 0);
        dueFound("the class changed places", x, 21, 4);
        x = threeClasses();
        x.lookUp(2, 71);
        x.become(2, 3);
        CHECKS.due("9: the class above changed places", x.above(71), 0);
        dueFound("the class above changed places", x, 31, 6);
    }
}
