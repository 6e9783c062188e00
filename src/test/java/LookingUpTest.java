/** "Terms": looking up a selector from a class, sentence by sentence. */
public final class LookingUpTest {
    private static final Checks CHECKS = new Checks();
    private static final int LONGEST = 100;

    public static void main(String[] args) {
        thatOneAtFirst();
        nothingIsFound();
        noClass();
        twoFieldsOrMore();
        neitherNilNorFields();
        badOnlyWhenReached();
        pairs();
        lastSingleOne();
        firstSelector();
        classAbove();
        hundredth();
        hundredAndFirst();
        nilPastTheHundredth();
        rings();
        CHECKS.end();
    }

    private static void dueFound(String what, MethodBook x, int method, int where) {
        CHECKS.due("method, " + what, x.method(), method);
        CHECKS.due("where, " + what, x.where(), where);
    }

    private static void thatOneAtFirst() {
        CHECKS.sentence("the class on the way is that one at first");
        MethodBook x = Books.threeClasses();
        CHECKS.due("from the first", x.lookUp(2, 71), 0);
        dueFound("from the first", x, 11, 2);
        CHECKS.due("from the second", x.lookUp(4, 71), 0);
        dueFound("from the second", x, 21, 4);
        CHECKS.due("from the third", x.lookUp(6, 71), 0);
        dueFound("from the third", x, 31, 6);
        CHECKS.due("a selector of the class below", x.lookUp(4, 83), MethodBook.NONE);
        CHECKS.due("a selector of two classes below", x.lookUp(6, 83), MethodBook.NONE);
    }

    private static void nothingIsFound() {
        CHECKS.sentence("If it is nil, nothing is found");
        MethodBook x = Books.threeClasses();
        for (int selector : new int[] {0, 1, 71, -2147483647, 2, 26}) {
            CHECKS.due("from nil, " + selector, x.lookUp(0, selector), MethodBook.NONE);
            CHECKS.due("up to nil, " + selector, x.lookUp(6, selector), selector == 71 ? 0 : MethodBook.NONE);
        }
        CHECKS.due("up to nil, past three", x.lookUp(2, 91), MethodBook.NONE);
        dueFound("nothing", x, 0, 0);
        x.put(1, 0, 0);
        CHECKS.due("past one, once more", x.lookUp(2, 91), MethodBook.NONE);
        CHECKS.due("what would be found past nil", x.lookUp(2, 87), MethodBook.NONE);
        x.put(1, 1, 0);
        CHECKS.due("past one of no dictionary", x.lookUp(2, 71), MethodBook.NONE);
        x.put(11, 2, 0);
        x.put(1, 1, 22);
        CHECKS.due("nil as a selector that stands there", x.lookUp(2, 0), 0);
    }

    /** A number, an object of bytes, of one field, of none: 40, 42, 44, 46. */
    private static MethodBook withNoClasses() {
        MethodBook x = Books.threeClasses();
        x.make(20, 2, false);
        x.make(21, 40, false);
        x.make(22, 1, true);
        x.make(23, 0, true);
        return x;
    }

    private static void noClass() {
        CHECKS.sentence("If it is no object of two fields or more, it is BAD");
        for (int noClass : new int[] {1, 3, -1, -2147483647, 2147483647, 40, 42, 44, 46}) {
            MethodBook x = withNoClasses();
            CHECKS.due("from " + noClass, x.lookUp(noClass, 71), MethodBook.BAD);
            dueFound("from " + noClass, x, 0, 0);
            CHECKS.due("from " + noClass + ", nil", x.lookUp(noClass, 0), MethodBook.BAD);
            x.put(3, 0, noClass);
            CHECKS.due("past three, " + noClass, x.lookUp(2, 91), MethodBook.BAD);
            x.put(2, 0, noClass);
            CHECKS.due("past two, " + noClass, x.lookUp(2, 91), MethodBook.BAD);
            CHECKS.due("what is past it, " + noClass, x.lookUp(2, 87), MethodBook.BAD);
            x.put(1, 0, noClass);
            CHECKS.due("past one, " + noClass, x.lookUp(2, 91), MethodBook.BAD);
            dueFound("past one, " + noClass, x, 0, 0);
        }
        MethodBook x = withNoClasses();
        x.put(22, 0, 2);
        CHECKS.due("of one field, a class there", x.lookUp(44, 71), MethodBook.BAD);
    }

    private static void twoFieldsOrMore() {
        CHECKS.sentence("no object of two fields or more");
        for (int n = 0; n <= 40; n++) {
            MethodBook x = Books.threeClasses();
            x.make(1, n, true);
            x.put(1, 0, 4);
            x.put(1, 1, 22);
            CHECKS.due("from a class of " + n, x.lookUp(2, 71), n < 2 ? MethodBook.BAD : 0);
            CHECKS.due("past a class of " + n, x.lookUp(2, 85), n < 2 ? MethodBook.BAD : 1);
            x.put(3, 0, 2);
            CHECKS.due("up to a class of " + n, x.lookUp(4, 83), n < 2 ? MethodBook.BAD : 2);
        }
    }

    private static void neitherNilNorFields() {
        CHECKS.sentence("Its field 1 is its DICTIONARY: if that is neither nil nor an object of fields, it is bad");
        for (int dictionary : new int[] {1, 3, -1, -2147483647, 2147483647, 40, 42}) {
            for (int k = 1; k <= 3; k++) {
                MethodBook x = withNoClasses();
                x.put(k, 1, dictionary);
                CHECKS.due("dictionary " + dictionary + " of " + k, x.lookUp(2, 91), MethodBook.BAD);
                dueFound("dictionary " + dictionary + " of " + k, x, 0, 0);
                CHECKS.due("what is past it", x.lookUp(2, 87), MethodBook.BAD);
                CHECKS.due("from it", x.lookUp(2 * k, 71), MethodBook.BAD);
            }
        }
        for (int dictionary : new int[] {0, 44, 46}) {
            MethodBook x = withNoClasses();
            for (int k = 1; k <= 3; k++) {
                x.put(k, 1, dictionary);
                CHECKS.due("dictionary " + dictionary + " of " + k, x.lookUp(2, 91), MethodBook.NONE);
                CHECKS.due("from it", x.lookUp(2 * k, 71), k < 3 ? 1 : MethodBook.NONE);
            }
        }
        MethodBook x = withNoClasses();
        x.put(1, 1, 2);
        CHECKS.due("the class itself as its dictionary", x.lookUp(2, 4), 0);
        dueFound("the class itself", x, 2, 2);
    }

    private static void badOnlyWhenReached() {
        CHECKS.sentence("if that is neither nil nor an object of fields, it is bad (when it is on the way)");
        MethodBook x = withNoClasses();
        x.put(2, 1, 40);
        CHECKS.due("found below it", x.lookUp(2, 83), 0);
        CHECKS.due("found above it", x.lookUp(6, 87), 0);
        CHECKS.due("through it", x.lookUp(2, 87), MethodBook.BAD);
        x.put(2, 1, 24);
        x.put(2, 0, 44);
        CHECKS.due("found before what is no class", x.lookUp(2, 85), 1);
        CHECKS.due("not found before it", x.lookUp(2, 87), MethodBook.BAD);
        x.put(2, 1, 1);
        x.put(2, 0, 0);
        CHECKS.due("a bad dictionary before nil", x.lookUp(4, 91), MethodBook.BAD);
        x.put(2, 1, 0);
        CHECKS.due("no dictionary before nil", x.lookUp(4, 91), MethodBook.NONE);
    }

    private static void pairs() {
        CHECKS.sentence("The dictionary's fields are a selector, a method, a selector, a method, and so on");
        for (int n = 0; n <= 40; n++) {
            MethodBook x = Books.dictionaryOf(n);
            for (int i = 0; i < n; i++) {
                boolean isSelector = i % 2 == 0 && i + 1 < n;
                CHECKS.due("field " + i + " of " + n, x.lookUp(2, 101 + 2 * i), isSelector ? 0 : MethodBook.NONE);
                dueFound("field " + i + " of " + n, x, isSelector ? 103 + 2 * i : 0, isSelector ? 2 : 0);
            }
        }
    }

    private static void lastSingleOne() {
        CHECKS.sentence("(a last single one is nothing)");
        for (int n = 1; n <= 39; n += 2) {
            MethodBook x = Books.dictionaryOf(n);
            x.make(3, 2, true);
            x.make(4, 2, true);
            x.put(1, 0, 6);
            x.put(3, 1, 8);
            x.put(4, 0, 5);
            CHECKS.due("nothing above, of " + n, x.lookUp(2, 99 + 2 * n), MethodBook.NONE);
            x.put(2, n - 1, 5);
            CHECKS.due("found above, of " + n, x.lookUp(2, 5), 1);
            dueFound("found above, of " + n, x, 0, 6);
            x.put(2, n - 1, 0);
            CHECKS.due("nil, of " + n, x.lookUp(2, 0), MethodBook.NONE);
        }
    }

    private static void firstSelector() {
        CHECKS.sentence("the method behind the first selector that is the one looked for is FOUND there");
        MethodBook x = Books.dictionaryOf(40);
        for (int first = 38; first >= 0; first -= 2) {
            x.put(2, first, 5);
            CHECKS.due("first in field " + first, x.lookUp(2, 5), 0);
            dueFound("first in field " + first, x, 103 + 2 * first, 2);
        }
        x.put(2, 1, 0);
        CHECKS.due("its method is nil, a second is there", x.lookUp(2, 5), 0);
        dueFound("its method is nil", x, 0, 2);
        x.put(2, 1, 5);
        CHECKS.due("a method like its selector", x.lookUp(2, 5), 0);
        dueFound("a method like its selector", x, 5, 2);
        x = Books.threeClasses();
        x.put(11, 0, 71);
        x.put(11, 1, 85);
        CHECKS.due("a method like a selector above", x.lookUp(2, 85), 1);
        for (int selector : new int[] {0, 26, 22, 2}) {
            x.put(12, 2, selector);
            x.put(12, 3, selector);
            CHECKS.due("the selector " + selector, x.lookUp(2, selector), 1);
            dueFound("the selector " + selector, x, selector, 4);
        }
    }

    private static void classAbove() {
        CHECKS.sentence("Otherwise the class on the way becomes field 0 of that class, and so on");
        MethodBook x = Books.threeClasses();
        CHECKS.due("one above", x.lookUp(2, 85), 1);
        dueFound("one above", x, 23, 4);
        CHECKS.due("two above", x.lookUp(2, 87), 2);
        dueFound("two above", x, 33, 6);
        x.make(2, 40, true);
        x.put(2, 0, 6);
        x.put(2, 2, 2);
        x.put(2, 39, 2);
        CHECKS.due("past a class of other fields", x.lookUp(2, 87), 2);
        x.make(11, 4, true);
        x.put(11, 0, 5);
        x.put(11, 1, 24);
        CHECKS.due("fields of a dictionary are no classes", x.lookUp(2, 85), MethodBook.NONE);
        x.put(1, 0, 6);
        CHECKS.due("another field 0", x.lookUp(2, 87), 1);
        dueFound("another field 0", x, 33, 6);
    }

    private static void hundredth() {
        CHECKS.sentence("When it is to be looked at a 101st class, it is bad (the 100th is looked at)");
        for (int count : new int[] {1, 2, 99, 100}) {
            MethodBook x = Books.longWay(count);
            CHECKS.due("found in the last of " + count, x.lookUp(2, 5), count - 1);
            dueFound("the last of " + count, x, 7, 2 * count);
        }
        MethodBook x = Books.longWay(LONGEST);
        x.put(LONGEST, 1, 0);
        x.put(LONGEST - 1, 1, 800);
        CHECKS.due("found in the 99th of 100", x.lookUp(2, 5), 98);
    }

    private static void hundredAndFirst() {
        CHECKS.sentence("When it is to be looked at a 101st class, it is bad");
        for (int count : new int[] {101, 102, 150, 200}) {
            MethodBook x = Books.longWay(count);
            CHECKS.due("the last of " + count, x.lookUp(2, 5), MethodBook.BAD);
            dueFound("the last of " + count, x, 0, 0);
            CHECKS.due("none of " + count, x.lookUp(2, 9), MethodBook.BAD);
            CHECKS.due("from further up", x.lookUp(2 * (count - 99), 5), 99);
            CHECKS.due("from one below that", x.lookUp(2 * (count - 100), 5), MethodBook.BAD);
        }
        MethodBook x = Books.longWay(LONGEST);
        x.make(101, 1, true);
        x.make(102, 2, false);
        for (int noClass : new int[] {1, -1, 202, 204}) {
            x.put(LONGEST, 0, noClass);
            CHECKS.due("no class past the 100th, " + noClass, x.lookUp(2, 9), MethodBook.BAD);
        }
    }

    private static void nilPastTheHundredth() {
        CHECKS.sentence("If it is nil, nothing is found (nil is no 101st class)");
        for (int count : new int[] {98, 99, 100}) {
            MethodBook x = Books.longWay(count);
            CHECKS.due("nil past " + count, x.lookUp(2, 9), MethodBook.NONE);
        }
    }

    private static void rings() {
        CHECKS.sentence("When it is to be looked at a 101st class, it is bad (the same one may be met again)");
        for (int count : new int[] {1, 2, 3, 50, 99, 100, 101}) {
            MethodBook x = Books.longWay(count);
            x.put(count, 0, 2);
            CHECKS.due("not found in a ring of " + count, x.lookUp(2, 9), MethodBook.BAD);
            dueFound("not found in a ring of " + count, x, 0, 0);
            CHECKS.due("found in a ring of " + count, x.lookUp(2, 5), count <= 100 ? count - 1 : MethodBook.BAD);
            CHECKS.due("found at once", x.lookUp(2 * count, 5), 0);
            CHECKS.due("above it, round again", x.above(5), count <= 100 ? count - 1 : MethodBook.BAD);
        }
    }
}
