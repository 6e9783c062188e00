/** "Terms": changing places; promises 10 to 13: inherits, become, users, senders. */
public final class WaysTest {
    private static final Checks CHECKS = new Checks();

    public static void main(String[] args) {
        onTheWayUp();
        asLongAs();
        anyOfThem();
        nilNever();
        mostOfThem();
        noValue();
        becomeTheOther();
        ownFields();
        howManyChanged();
        oneNotMade();
        users();
        noUsers();
        twoFieldsOrMore();
        senders();
        ownDictionary();
        noDictionary();
        CHECKS.end();
    }

    private static void onTheWayUp() {
        CHECKS.sentence("Promise 10: c itself, then field 0 of that, and so on");
        MethodBook x = Books.threeClasses();
        CHECKS.due("itself", x.inherits(2, 2), true);
        CHECKS.due("the next", x.inherits(2, 4), true);
        CHECKS.due("the last", x.inherits(2, 6), true);
        CHECKS.due("from the second, the last", x.inherits(4, 6), true);
        CHECKS.due("one below", x.inherits(4, 2), false);
        CHECKS.due("two below", x.inherits(6, 2), false);
        CHECKS.due("its dictionary", x.inherits(2, 22), false);
        CHECKS.due("an object elsewhere", x.inherits(2, 26), false);
        CHECKS.due("a number elsewhere", x.inherits(2, 71), false);
        x.put(1, 0, 6);
        CHECKS.due("passed over since", x.inherits(2, 4), false);
        CHECKS.due("the last, by the shorter way", x.inherits(2, 6), true);
        x.put(3, 1, 5);
        x.put(3, 0, 4);
        CHECKS.due("past a bad dictionary", x.inherits(2, 4), true);
        x.lookUp(4, 71);
        x.inherits(2, 4);
        CHECKS.due("what was found stays", x.where(), 4);
    }

    private static void asLongAs() {
        CHECKS.sentence("Promise 10: as long as what is looked at is an object of two fields or more");
        for (int n = 0; n <= 40; n++) {
            MethodBook x = Books.threeClasses();
            x.make(2, n, true);
            x.put(2, 0, 6);
            CHECKS.due("an object of " + n, x.inherits(2, 4), true);
            CHECKS.due("past an object of " + n, x.inherits(2, 6), n >= 2);
            CHECKS.due("from an object of " + n, x.inherits(4, 6), n >= 2);
            x.make(2, n, false);
            CHECKS.due("bytes", x.inherits(2, 4), true);
            CHECKS.due("past bytes", x.inherits(2, 6), false);
            CHECKS.due("from bytes", x.inherits(4, 4), true);
        }
        MethodBook x = Books.threeClasses();
        x.put(1, 0, 7);
        CHECKS.due("past a number", x.inherits(2, 4), false);
        x.put(1, 0, 0);
        CHECKS.due("past nil", x.inherits(2, 4), false);
        x.put(1, 0, 5);
        CHECKS.due("a number is no object's number", x.inherits(2, 6), false);
    }

    private static void anyOfThem() {
        CHECKS.sentence("Promise 10: d may be any of them, also a number");
        for (int v : Books.NUMBERS) {
            MethodBook x = Books.threeClasses();
            CHECKS.due("from " + v, x.inherits(v, v), true);
            CHECKS.due("from " + v + " to an object", x.inherits(v, 2), false);
            CHECKS.due("from " + v + " to another number", x.inherits(v, v ^ 2), false);
            CHECKS.due("not there, " + v, x.inherits(2, v), false);
            x.put(3, 0, v);
            CHECKS.due("past three, " + v, x.inherits(2, v), true);
            CHECKS.due("past one, " + v, x.inherits(6, v), true);
        }
        for (int n : new int[] {0, 1, 2}) {
            MethodBook x = Books.threeClasses();
            x.make(400, n, true);
            x.make(399, n, false);
            x.put(3, 0, 800);
            CHECKS.due("an object of fields", x.inherits(2, 800), true);
            CHECKS.due("from it", x.inherits(800, 800), true);
            x.put(3, 0, 798);
            CHECKS.due("an object of bytes", x.inherits(2, 798), true);
            CHECKS.due("from it", x.inherits(798, 798), true);
        }
    }

    private static void nilNever() {
        CHECKS.sentence("Promise 10: nil never");
        MethodBook x = Books.threeClasses();
        CHECKS.due("up to nil", x.inherits(2, 0), false);
        CHECKS.due("up to nil, past one", x.inherits(6, 0), false);
        CHECKS.due("from nil", x.inherits(0, 0), false);
        CHECKS.due("from nil to another", x.inherits(0, 2), false);
        CHECKS.due("from a number", x.inherits(5, 0), false);
    }

    private static void mostOfThem() {
        CHECKS.sentence("Promise 10: and at most 100 are looked at, c the first");
        MethodBook x = Books.longWay(110);
        CHECKS.due("the 99th", x.inherits(2, 198), true);
        CHECKS.due("the 100th", x.inherits(2, 200), true);
        CHECKS.due("the 101st", x.inherits(2, 202), false);
        CHECKS.due("the 110th", x.inherits(2, 220), false);
        CHECKS.due("the 100th, from the second", x.inherits(4, 202), true);
        CHECKS.due("the 101st, from the second", x.inherits(4, 204), false);
        for (int last : new int[] {77, 2 * 400}) {
            x.put(100, 0, last);
            CHECKS.due("another value as the 101st, " + last, x.inherits(2, last), false);
            x.put(99, 0, last);
            CHECKS.due("another value as the 100th, " + last, x.inherits(2, last), true);
            x.put(99, 0, 200);
        }
        for (int count : new int[] {1, 2, 99, 100, 101}) {
            x = Books.longWay(count);
            x.put(count, 0, 2);
            CHECKS.due("the last in a ring of " + count, x.inherits(2, 2 * count), count <= 100);
            CHECKS.due("none in a ring of " + count, x.inherits(2, 800), false);
            CHECKS.due("the first in a ring of " + count, x.inherits(2 * count, 2), true);
        }
    }

    private static void noValue() {
        CHECKS.sentence("Promise 10: False when c is no value");
        MethodBook x = Books.threeClasses();
        for (int v : Books.NO_VALUES) {
            CHECKS.due("from " + v + " to itself", x.inherits(v, v), false);
            CHECKS.due("from " + v, x.inherits(v, 2), false);
            CHECKS.due("to " + v, x.inherits(2, v), false);
            CHECKS.due("from " + v + " to nil", x.inherits(v, 0), false);
        }
        for (int k : new int[] {4, 200, 400}) {
            CHECKS.due("from one not made, " + k, x.inherits(2 * k, 2 * k), false);
            CHECKS.due("to one not made, " + k, x.inherits(2, 2 * k), false);
            x.make(k, 0, true);
            CHECKS.due("from it when it is made", x.inherits(2 * k, 2 * k), true);
            CHECKS.due("to it when it is made", x.inherits(2, 2 * k), false);
        }
    }

    /** Objects 1 and 2 of three fields, 3 of bytes, 4 of none, 400 of forty. */
    private static MethodBook places() {
        MethodBook x = new MethodBook();
        x.make(1, 3, true);
        x.make(2, 3, true);
        x.make(3, 2, false);
        x.make(4, 0, true);
        x.make(400, 40, true);
        x.put(1, 0, 2);
        x.put(1, 1, 4);
        x.put(1, 2, 6);
        x.put(2, 0, 5);
        x.put(2, 1, 1);
        x.put(400, 39, 2);
        x.put(400, 0, 800);
        x.put(400, 1, 8);
        return x;
    }

    private static void becomeTheOther() {
        CHECKS.sentence("TO CHANGE PLACES two objects: all values in fields that are the one become the other, and"
            + " the other way round");
        MethodBook x = places();
        CHECKS.due("two", x.become(1, 2), 3);
        CHECKS.due("the one became the other", x.get(1, 0), 4);
        CHECKS.due("and the other way round", x.get(1, 1), 2);
        CHECKS.due("another object stays", x.get(1, 2), 6);
        CHECKS.due("a field of a third", x.get(400, 39), 4);
        CHECKS.due("another field of it stays", x.get(400, 0), 800);
        CHECKS.due("a number like the number of one", x.get(2, 0), 5);
        CHECKS.due("a number that is half of one", x.get(2, 1), 1);
        CHECKS.due("nil stays", x.get(2, 2), 0);
        CHECKS.due("back, named the other way", x.become(2, 1), 3);
        CHECKS.due("as it was", x.get(1, 0) == 2 && x.get(1, 1) == 4 && x.get(400, 39) == 2, true);
        CHECKS.due("one of bytes", x.become(400, 3), 2);
        CHECKS.due("became one of bytes", x.get(400, 0), 6);
        CHECKS.due("the other way round too", x.get(1, 2), 800);
        CHECKS.due("one of no fields", x.become(4, 3), 2);
        CHECKS.due("became one of no fields", x.get(400, 0), 8);
        CHECKS.due("the other way round too", x.get(400, 1), 6);
    }

    private static void ownFields() {
        CHECKS.sentence("(Each keeps its own fields; these change like all others.)");
        MethodBook x = places();
        x.become(1, 2);
        CHECKS.due("field 0 of the one, which was itself", x.get(1, 0), 4);
        CHECKS.due("field 0 of the other", x.get(2, 0), 5);
        x.become(400, 3);
        CHECKS.due("size of the one", x.size(400), 40);
        CHECKS.due("the other is of bytes", x.size(3), MethodBook.NONE);
        CHECKS.due("field 0 of the one, which was itself", x.get(400, 0), 6);
        CHECKS.due("field 39 of it", x.get(400, 39), 4);
        x = Books.threeClasses();
        x.become(1, 2);
        CHECKS.due("a class above that is itself now", x.get(1, 0), 2);
        CHECKS.due("dictionary of the one", x.get(1, 1), 22);
        CHECKS.due("dictionary of the other", x.get(2, 1), 24);
        CHECKS.due("lookUp from the one", x.lookUp(2, 83), 0);
        CHECKS.due("lookUp from the other", x.lookUp(4, 85), 0);
        CHECKS.due("lookUp round itself", x.lookUp(2, 85), MethodBook.BAD);
    }

    private static void howManyChanged() {
        CHECKS.sentence("Promise 11: Answers how many fields changed");
        MethodBook x = places();
        CHECKS.due("one with itself", x.become(1, 1), 0);
        CHECKS.due("its fields stay", x.get(1, 0), 2);
        CHECKS.due("two that no field has", new MethodBook().become(1, 1), MethodBook.NONE);
        x.put(400, 39, 0);
        x.put(1, 0, 0);
        CHECKS.due("one that a single field has", x.become(1, 2), 1);
        CHECKS.due("it has the other", x.get(1, 1), 2);
        x.put(1, 1, 0);
        CHECKS.due("two that no field has", x.become(1, 2), 0);
        for (int k = 10; k < 20; k++) {
            x.make(k, 40, true);
            for (int i = 0; i < 40; i++) {
                x.put(k, i, i % 4 == 0 ? 5 : i % 4 == 1 ? 0 : i % 4 == 2 ? 2 : 4);
            }
        }
        CHECKS.due("many", x.become(2, 1), 200);
        CHECKS.due("many, back", x.become(1, 2), 200);
        x.make(19, 1, true);
        CHECKS.due("fields that are gone do not count", x.become(1, 2), 180);
        x.make(18, 40, false);
        CHECKS.due("bytes do not count", x.become(1, 2), 160);
        x = places();
        x.make(2, 0, false);
        CHECKS.due("fields that have the new one count", x.become(1, 2), 3);
    }

    private static void oneNotMade() {
        CHECKS.sentence("Promise 11: NONE when one of them is not made");
        MethodBook x = places();
        for (int k : Books.NO_OBJECTS) {
            CHECKS.due("one with " + k, x.become(1, k), MethodBook.NONE);
            CHECKS.due(k + " with one", x.become(k, 1), MethodBook.NONE);
            CHECKS.due(k + " with itself", x.become(k, k), MethodBook.NONE);
        }
        for (int k : new int[] {5, 200, 399}) {
            CHECKS.due("one with " + k, x.become(1, k), MethodBook.NONE);
            CHECKS.due(k + " with one", x.become(k, 1), MethodBook.NONE);
            CHECKS.due(k + " with itself", x.become(k, k), MethodBook.NONE);
            x.make(k, 0, k == 200);
            CHECKS.due("one with " + k + " when it is made", x.become(1, k), 2);
            CHECKS.due(k + " with one when it is made", x.become(k, 1), 2);
            CHECKS.due(k + " with itself when it is made", x.become(k, k), 0);
        }
    }

    private static void users() {
        CHECKS.sentence("Promise 12: How many objects have object d as their dictionary (field 1)");
        MethodBook x = new MethodBook();
        x.make(1, 4, true);
        CHECKS.due("none", x.users(1), 0);
        x.put(1, 0, 2);
        x.put(1, 2, 2);
        x.put(1, 3, 2);
        CHECKS.due("in other fields", x.users(1), 0);
        x.put(1, 1, 2);
        CHECKS.due("its own", x.users(1), 1);
        for (int k = 201; k <= 400; k++) {
            x.make(k, 2, true);
            x.put(k, 1, 2);
        }
        CHECKS.due("two hundred more", x.users(1), 201);
        x.make(1, 0, true);
        CHECKS.due("of no fields", x.users(1), 200);
        x.make(1, 40, false);
        CHECKS.due("of bytes", x.users(1), 200);
        x.put(400, 1, 0);
        CHECKS.due("one less", x.users(1), 199);
        x.put(201, 1, 3);
        CHECKS.due("a number is no object", x.users(1), 198);
        x.put(202, 1, 800);
        CHECKS.due("another", x.users(400), 1);
        x.become(1, 400);
        CHECKS.due("after places changed", x.users(400), 197);
        CHECKS.due("after places changed, the other", x.users(1), 1);
    }

    private static void noUsers() {
        CHECKS.sentence("Promise 12: object d (one that is none has no users)");
        MethodBook x = Books.threeClasses();
        x.make(4, 2, true);
        x.put(4, 1, 2);
        x.put(2, 1, 1);
        x.put(3, 1, -1);
        CHECKS.due("object 1", x.users(1), 1);
        for (int d : Books.NO_OBJECTS) {
            CHECKS.due("users of " + d, x.users(d), 0);
        }
        CHECKS.due("of one not made", x.users(5), 0);
        CHECKS.due("of one whose double is a value there", x.users(-2147483636), 0);
    }

    private static void twoFieldsOrMore() {
        CHECKS.sentence("Promise 12: and can be gone up from, of two fields or more");
        for (int n = 0; n <= 40; n++) {
            MethodBook x = Books.threeClasses();
            x.put(1, 1, 26);
            CHECKS.due("two", x.users(13), 2);
            x.make(1, n, true);
            CHECKS.due("one is made anew, of " + n, x.users(13), 1);
            x.put(1, 0, 26);
            x.put(1, 1, 26);
            CHECKS.due("of " + n, x.users(13), n < 2 ? 1 : 2);
            x.make(1, n, false);
            CHECKS.due("of bytes", x.users(13), 1);
        }
        MethodBook x = Books.threeClasses();
        x.put(1, 0, 7);
        CHECKS.due("a class above that is none does not matter", x.users(11), 1);
    }

    private static void senders() {
        CHECKS.sentence("Promise 13: in how many the selector is found in their own dictionary");
        MethodBook x = Books.threeClasses();
        CHECKS.due("in three", x.senders(71), 3);
        CHECKS.due("in one", x.senders(83), 1);
        CHECKS.due("in none", x.senders(91), 0);
        CHECKS.due("a method", x.senders(11), 0);
        CHECKS.due("nil", x.senders(0), 0);
        x.put(1, 1, 24);
        CHECKS.due("in two of one dictionary", x.senders(85), 2);
        x.put(12, 0, 85);
        CHECKS.due("twice in one counts once", x.senders(85), 2);
        x.put(12, 0, 26);
        CHECKS.due("an object", x.senders(26), 2);
        x.put(12, 0, 0);
        CHECKS.due("nil that stands there", x.senders(0), 2);
        x.make(12, 5, true);
        x.put(12, 4, 5);
        CHECKS.due("a last single one", x.senders(5), 0);
        CHECKS.due("nil twice", x.senders(0), 2);
        x.make(12, 1, true);
        CHECKS.due("a single one", x.senders(0), 0);
        for (int v : Books.NO_VALUES) {
            CHECKS.due("no value " + v, x.senders(v), 0);
        }
        CHECKS.due("one not made", x.senders(800), 0);
        for (int n = 0; n <= 40; n++) {
            x = Books.dictionaryOf(n);
            for (int i = 0; i < n; i++) {
                CHECKS.due("field " + i + " of " + n, x.senders(101 + 2 * i), i % 2 == 0 && i + 1 < n ? 1 : 0);
            }
        }
    }

    private static void ownDictionary() {
        CHECKS.sentence("Promise 13: Of all objects of two fields or more, .. their own dictionary");
        MethodBook x = Books.threeClasses();
        CHECKS.due("nothing is gone up", x.senders(87), 1);
        x.put(3, 1, 0);
        CHECKS.due("no dictionary has it", x.senders(87), 0);
        x.make(1, 1, true);
        x.put(1, 0, 24);
        CHECKS.due("one of one field", x.senders(71), 1);
        x = new MethodBook();
        x.make(1, 2, true);
        x.put(1, 0, 5);
        for (int k = 201; k <= 400; k++) {
            x.make(k, 2, true);
            x.put(k, 1, 2);
        }
        CHECKS.due("two hundred", x.senders(5), 200);
        x.put(1, 1, 2);
        CHECKS.due("one that is its own", x.senders(5), 201);
        for (int n = 0; n <= 40; n++) {
            x = Books.dictionaryOf(2);
            x.make(400, n, true);
            x.put(400, 1, 4);
            CHECKS.due("one of " + n, x.senders(101), n < 2 ? 1 : 2);
        }
        x = Books.threeClasses();
        x.lookUp(4, 71);
        x.senders(71);
        CHECKS.due("what was found stays", x.where(), 4);
    }

    private static void noDictionary() {
        CHECKS.sentence("Promise 13: which is an object of fields");
        MethodBook x = Books.threeClasses();
        for (int dictionary : new int[] {0, 1, 23, -1, 2147483647}) {
            x.put(1, 1, dictionary);
            CHECKS.due("a dictionary that is " + dictionary, x.senders(71), 2);
        }
        x.put(1, 1, 22);
        CHECKS.due("fields", x.senders(71), 3);
        for (int n : new int[] {0, 1, 2, 40}) {
            x.make(11, n, false);
            CHECKS.due("bytes", x.senders(71), 2);
            CHECKS.due("bytes, nil", x.senders(0), 0);
            x.make(11, n, true);
            CHECKS.due("fields again, of " + n, x.senders(0), n < 2 ? 0 : 1);
        }
        x.put(2, 1, 5);
        CHECKS.due("a bad dictionary is no sender, and the others count", x.senders(71), 1);
    }
}
