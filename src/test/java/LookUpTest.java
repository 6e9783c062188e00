/** Promises 6 to 9: lookUp, method, where, above. */
public final class LookUpTest {
    private static final Checks CHECKS = new Checks();

    public static void main(String[] args) {
        afterHowMany();
        noneOrBad();
        noValue();
        foundNoMore();
        method();
        noMethod();
        where();
        nowhere();
        staysFound();
        classAbove();
        asItIsNow();
        nilIfItHasNone();
        asLookUp();
        aboveLongWays();
        nothingWasFound();
        CHECKS.end();
    }

    private static void dueFound(String what, MethodBook x, int method, int where) {
        CHECKS.due("method, " + what, x.method(), method);
        CHECKS.due("where, " + what, x.where(), where);
    }

    private static void afterHowMany() {
        CHECKS.sentence("Promise 6: Answers after how many classes it was found (0 when at once)");
        MethodBook x = Books.threeClasses();
        CHECKS.due("at once", x.lookUp(2, 71), 0);
        CHECKS.due("at once, in the second place", x.lookUp(2, 83), 0);
        CHECKS.due("after one", x.lookUp(2, 85), 1);
        CHECKS.due("after two", x.lookUp(2, 87), 2);
        CHECKS.due("after one, from the second", x.lookUp(4, 87), 1);
        CHECKS.due("at once, from the third", x.lookUp(6, 87), 0);
        x.put(2, 1, 0);
        CHECKS.due("a class of no dictionary counts", x.lookUp(2, 87), 2);
        CHECKS.due("after 99", Books.longWay(100).lookUp(2, 5), 99);
    }

    private static void noneOrBad() {
        CHECKS.sentence("Promise 6: NONE when nothing is found, BAD when it is bad");
        MethodBook x = Books.threeClasses();
        CHECKS.due("from nil", x.lookUp(0, 71), MethodBook.NONE);
        CHECKS.due("up to nil", x.lookUp(2, 91), MethodBook.NONE);
        x.put(3, 0, 5);
        CHECKS.due("up to a number", x.lookUp(2, 91), MethodBook.BAD);
        x.put(3, 0, 0);
        x.put(3, 1, 5);
        CHECKS.due("up to a bad dictionary", x.lookUp(2, 91), MethodBook.BAD);
        CHECKS.due("from a number", x.lookUp(5, 91), MethodBook.BAD);
        CHECKS.due("past a 100th class", Books.longWay(101).lookUp(2, 5), MethodBook.BAD);
    }

    private static void noValue() {
        CHECKS.sentence("Promise 6: or one of them is no value");
        for (int v : Books.NO_VALUES) {
            MethodBook x = Books.threeClasses();
            CHECKS.due("from " + v, x.lookUp(v, 71), MethodBook.BAD);
            CHECKS.due("of " + v, x.lookUp(2, v), MethodBook.BAD);
            CHECKS.due("of " + v + ", from nil", x.lookUp(0, v), MethodBook.BAD);
            CHECKS.due("both " + v, x.lookUp(v, v), MethodBook.BAD);
            CHECKS.due("from " + v + ", nil", x.lookUp(v, 0), MethodBook.BAD);
        }
        for (int k : new int[] {4, 14, 399, 400}) {
            MethodBook x = Books.threeClasses();
            CHECKS.due("from one not made, " + k, x.lookUp(2 * k, 71), MethodBook.BAD);
            CHECKS.due("of one not made, " + k, x.lookUp(2, 2 * k), MethodBook.BAD);
            CHECKS.due("of one not made, from nil, " + k, x.lookUp(0, 2 * k), MethodBook.BAD);
            x.make(k, 2, true);
            CHECKS.due("from it when it is made", x.lookUp(2 * k, 71), MethodBook.NONE);
            CHECKS.due("of it when it is made", x.lookUp(2, 2 * k), MethodBook.NONE);
            CHECKS.due("of it when it is made, from nil", x.lookUp(0, 2 * k), MethodBook.NONE);
        }
        for (int v : Books.NUMBERS) {
            CHECKS.due("of the number " + v, Books.longWay(3).lookUp(2, v), MethodBook.NONE);
        }
    }

    private static void foundNoMore() {
        CHECKS.sentence("Promise 6: What was found before is found no more, in any case");
        MethodBook x = Books.threeClasses();
        x.make(20, 2, true);
        x.put(20, 1, 7);
        int[][] looked = {
            {2, 91}, {0, 71}, {3, 71}, {40, 71}, {802, 71}, {2, 802}, {-2, 71}, {2, -2}, {800, 71}, {2, 800},
            {0, 802}, {802, 802}};
        for (int[] pair : looked) {
            String after = "after " + pair[0] + ", " + pair[1];
            CHECKS.due("found", x.lookUp(2, 71), 0);
            dueFound("found", x, 11, 2);
            CHECKS.due("not found, " + after, x.lookUp(pair[0], pair[1]) < 0, true);
            dueFound(after, x, 0, 0);
            CHECKS.due("above, " + after, x.above(71), MethodBook.NONE);
        }
        x.lookUp(2, 71);
        x.lookUp(4, 85);
        dueFound("another was found", x, 23, 4);
        CHECKS.due("above the other", x.above(85), MethodBook.NONE);
    }

    private static void method() {
        CHECKS.sentence("Promise 7: The method that was found by the latest lookUp(), a value");
        MethodBook x = Books.threeClasses();
        for (int method : new int[] {0, 1, -1, -2147483647, 2147483647, 2, 6, 22, 26}) {
            x.put(12, 3, method);
            x.lookUp(2, 71);
            CHECKS.due("the one before", x.method(), 11);
            CHECKS.due("lookUp", x.lookUp(2, 85), 1);
            CHECKS.due("method " + method, x.method(), method);
            CHECKS.due("once more", x.method(), method);
            CHECKS.due("where it is", x.where(), 4);
        }
    }

    private static void noMethod() {
        CHECKS.sentence("Promise 7: 0 when nothing was");
        CHECKS.due("in a new book", new MethodBook().method(), 0);
        MethodBook x = Books.threeClasses();
        CHECKS.due("before any lookUp", x.method(), 0);
        x.lookUp(2, 71);
        x.lookUp(2, 91);
        CHECKS.due("after none", x.method(), 0);
        x.lookUp(2, 71);
        x.lookUp(3, 71);
        CHECKS.due("after bad", x.method(), 0);
        x.lookUp(2, 71);
        x.lookUp(2, 802);
        CHECKS.due("after no value", x.method(), 0);
    }

    private static void where() {
        CHECKS.sentence("Promise 8: The class in which it was found, a value");
        MethodBook x = Books.threeClasses();
        x.lookUp(2, 83);
        CHECKS.due("in the first", x.where(), 2);
        x.lookUp(2, 85);
        CHECKS.due("in the second", x.where(), 4);
        x.lookUp(2, 87);
        CHECKS.due("in the third", x.where(), 6);
        CHECKS.due("once more", x.where(), 6);
        x.put(2, 1, 22);
        x.lookUp(4, 83);
        CHECKS.due("not in the other class of this dictionary", x.where(), 4);
        x = new MethodBook();
        x.make(400, 2, true);
        x.put(400, 1, 800);
        x.lookUp(800, 0);
        CHECKS.due("in object 400", x.where(), 800);
        CHECKS.due("its method", x.method(), 800);
    }

    private static void nowhere() {
        CHECKS.sentence("Promise 8: 0 when nothing was");
        CHECKS.due("in a new book", new MethodBook().where(), 0);
        MethodBook x = Books.threeClasses();
        CHECKS.due("before any lookUp", x.where(), 0);
        x.lookUp(2, 71);
        x.lookUp(2, 91);
        CHECKS.due("after none", x.where(), 0);
        x.lookUp(2, 71);
        x.lookUp(3, 71);
        CHECKS.due("after bad", x.where(), 0);
        x.lookUp(2, 71);
        x.lookUp(802, 71);
        CHECKS.due("after no value", x.where(), 0);
    }

    private static void staysFound() {
        CHECKS.sentence("Promises 7 and 8: by the latest lookUp() (other calls leave it)");
        MethodBook x = Books.threeClasses();
        x.lookUp(2, 71);
        x.put(11, 1, 99);
        dueFound("its field changed", x, 11, 2);
        x.put(1, 1, 0);
        dueFound("the dictionary is gone", x, 11, 2);
        x.become(1, 2);
        dueFound("places changed", x, 11, 2);
        x.make(11, 0, false);
        dueFound("the dictionary is made anew", x, 11, 2);
        x.make(1, 0, true);
        dueFound("the class is made anew", x, 11, 2);
        x.make(0, 0, true);
        x.put(1, 0, 802);
        x.become(1, 99);
        dueFound("calls were refused", x, 11, 2);
        x.senders(71);
        x.users(11);
        x.inherits(2, 4);
        x.get(1, 1);
        x.size(1);
        dueFound("calls that only answer", x, 11, 2);
        x = Books.threeClasses();
        x.put(11, 1, 26);
        x.lookUp(2, 71);
        x.become(12, 13);
        dueFound("the method changed places", x, 26, 2);
        x.become(13, 12);
        dueFound("the method changed places again", x, 26, 2);
        x.make(13, 0, false);
        dueFound("the method is made anew", x, 26, 2);
    }

    private static void classAbove() {
        CHECKS.sentence("Promise 9: Looks up from the class above the one in which it was found");
        MethodBook x = Books.threeClasses();
        x.lookUp(2, 71);
        CHECKS.due("above the first", x.above(71), 0);
        dueFound("above the first", x, 21, 4);
        x.lookUp(2, 85);
        CHECKS.due("above where it was found, not above where it began", x.above(71), 0);
        dueFound("above where it was found", x, 31, 6);
        x.lookUp(2, 71);
        CHECKS.due("another selector", x.above(87), 1);
        dueFound("another selector", x, 33, 6);
        x.lookUp(2, 71);
        CHECKS.due("one of the class itself alone", x.above(83), MethodBook.NONE);
        x.lookUp(6, 71);
        CHECKS.due("above the last", x.above(71), MethodBook.NONE);
        x.put(3, 0, 6);
        x.lookUp(6, 71);
        CHECKS.due("its own class above", x.above(71), 0);
        dueFound("its own class above", x, 31, 6);
        x.put(12, 1, 0);
        x.lookUp(4, 71);
        CHECKS.due("above where nil was found", x.above(71), 0);
        dueFound("above where nil was found", x, 31, 6);
    }

    private static void asItIsNow() {
        CHECKS.sentence("Promise 9: (field 0 of that as it is now");
        MethodBook x = Books.threeClasses();
        x.lookUp(2, 71);
        x.put(1, 0, 6);
        CHECKS.due("put since", x.above(71), 0);
        dueFound("put since", x, 31, 6);
        x.lookUp(2, 71);
        x.put(1, 0, 0);
        CHECKS.due("nil since", x.above(71), MethodBook.NONE);
        x.lookUp(2, 71);
        x.put(1, 0, 7);
        CHECKS.due("a number since", x.above(71), MethodBook.BAD);
        x.lookUp(2, 71);
        x.put(1, 0, 22);
        CHECKS.due("a dictionary since", x.above(71), MethodBook.BAD);
        x = Books.threeClasses();
        x.lookUp(2, 71);
        x.become(1, 3);
        CHECKS.due("the class changed places since", x.above(71), 0);
        dueFound("the class changed places since", x, 21, 4);
        x = Books.threeClasses();
        x.lookUp(2, 71);
        x.become(2, 3);
        CHECKS.due("the class above changed places since", x.above(71), 0);
        dueFound("the class above changed places since", x, 31, 6);
        x = Books.threeClasses();
        x.lookUp(2, 71);
        x.make(2, 2, true);
        CHECKS.due("the class above made anew since", x.above(71), MethodBook.NONE);
    }

    private static void nilIfItHasNone() {
        CHECKS.sentence("Promise 9: nil if it has none)");
        int[] counts = {0, 1, 2, 40};
        for (int n : counts) {
            for (boolean kind : new boolean[] {true, false}) {
                MethodBook x = Books.threeClasses();
                x.lookUp(2, 71);
                x.make(1, n, kind);
                CHECKS.due("made anew, " + n + ", " + kind, x.above(71), MethodBook.NONE);
                dueFound("made anew, " + n + ", " + kind, x, 0, 0);
                x = Books.threeClasses();
                x.lookUp(2, 71);
                x.make(1, n, kind);
                boolean hasOne = x.put(1, 0, 6);
                CHECKS.due("with field 0 put, " + n + ", " + kind, x.above(71), hasOne ? 0 : MethodBook.NONE);
                dueFound("with field 0 put, " + n + ", " + kind, x, hasOne ? 31 : 0, hasOne ? 6 : 0);
            }
        }
    }

    private static void asLookUp() {
        CHECKS.sentence("Promise 9: as lookUp()");
        MethodBook x = Books.threeClasses();
        x.lookUp(2, 71);
        x.above(71);
        CHECKS.due("above what above() found", x.above(71), 0);
        dueFound("above what above() found", x, 31, 6);
        CHECKS.due("nothing is found", x.above(71), MethodBook.NONE);
        dueFound("nothing is found", x, 0, 0);
        CHECKS.due("after nothing was found", x.above(71), MethodBook.NONE);
        for (int v : Books.NO_VALUES) {
            x.lookUp(2, 71);
            CHECKS.due("of no value " + v, x.above(v), MethodBook.BAD);
            dueFound("of no value " + v, x, 0, 0);
            x.lookUp(6, 71);
            CHECKS.due("of no value " + v + ", from nil", x.above(v), MethodBook.BAD);
            dueFound("of no value " + v + ", from nil", x, 0, 0);
        }
        x.put(2, 1, 5);
        x.lookUp(2, 71);
        CHECKS.due("a bad dictionary", x.above(71), MethodBook.BAD);
        dueFound("a bad dictionary", x, 0, 0);
    }

    private static void aboveLongWays() {
        CHECKS.sentence("Promise 9: as lookUp() (the class above is the first of at most 100)");
        for (int count : new int[] {100, 101, 102}) {
            MethodBook x = Books.longWay(count);
            x.put(1, 1, 800);
            CHECKS.due("at once", x.lookUp(2, 5), 0);
            CHECKS.due("above, the last of " + count, x.above(5), count <= 101 ? count - 2 : MethodBook.BAD);
            x.lookUp(2, 5);
            CHECKS.due("above, none of " + count, x.above(9), count <= 101 ? MethodBook.NONE : MethodBook.BAD);
        }
    }

    private static void nothingWasFound() {
        CHECKS.sentence("Promise 9: NONE when nothing was found");
        MethodBook x = new MethodBook();
        x.make(1, 2, true);
        for (int v : new int[] {0, 2, 5, 4, 802, -2, Integer.MIN_VALUE}) {
            CHECKS.due("in a new book, " + v, x.above(v), MethodBook.NONE);
            x.lookUp(2, 5);
            CHECKS.due("after none, " + v, x.above(v), MethodBook.NONE);
            x.lookUp(3, 5);
            CHECKS.due("after bad, " + v, x.above(v), MethodBook.NONE);
            x.lookUp(802, 5);
            CHECKS.due("after no value, " + v, x.above(v), MethodBook.NONE);
            dueFound("nothing", x, 0, 0);
        }
    }
}
