/** What several tests begin with; each book is used for at most 512 calls. */
final class Books {
    /** Numbers of no object; the double of some of them is the value of one. */
    static final int[] NO_OBJECTS = {
        Integer.MIN_VALUE, -2147483647, -1073741824, -1073741823, -400, -1, 0, 401, 402, 800, 1073741823, 1073741824,
        1073741825, Integer.MAX_VALUE - 1, Integer.MAX_VALUE};

    /** Even, below 0 or above 800. */
    static final int[] NO_VALUES = {
        Integer.MIN_VALUE, Integer.MIN_VALUE + 2, -802, -800, -4, -2, 802, 804, 65538, 1073741824,
        Integer.MAX_VALUE - 1};

    /** -1073741824 .. 1073741823, doubled and one more. */
    static final int[] NUMBERS = {-2147483647, -2147483645, -801, -3, -1, 1, 3, 799, 801, 803, 2147483645, 2147483647};

    private Books() {
    }

    /**
     * Classes 1, 2, 3, each below the next, with the dictionaries 11, 12, 13 of two methods each: class k answers
     * selector 71 by 10 k + 1 and selector 81 + 2 k by 10 k + 3. Made by 22 calls.
     */
    static MethodBook threeClasses() {
        MethodBook x = new MethodBook();
        for (int k = 1; k <= 3; k++) {
            x.make(k, 2, true);
            x.make(k + 10, 4, true);
            x.put(k, 1, 2 * (k + 10));
            x.put(k + 10, 0, 71);
            x.put(k + 10, 1, 10 * k + 1);
            x.put(k + 10, 2, 81 + 2 * k);
            x.put(k + 10, 3, 10 * k + 3);
        }
        x.put(1, 0, 4);
        x.put(2, 0, 6);
        return x;
    }

    /** The classes 1 to count, each below the next; the last alone has a dictionary, object 400: 5 means 7. */
    static MethodBook longWay(int count) {
        MethodBook x = new MethodBook();
        x.make(400, 2, true);
        x.put(400, 0, 5);
        x.put(400, 1, 7);
        for (int k = 1; k <= count; k++) {
            x.make(k, 2, true);
            if (k > 1) {
                x.put(k - 1, 0, 2 * k);
            }
        }
        x.put(count, 1, 800);
        return x;
    }

    /** Class 1, with a dictionary, object 2, of that many fields: 101, 103, 105 and so on. */
    static MethodBook dictionaryOf(int count) {
        MethodBook x = new MethodBook();
        x.make(1, 2, true);
        x.make(2, count, true);
        x.put(1, 1, 4);
        for (int i = 0; i < count; i++) {
            x.put(2, i, 101 + 2 * i);
        }
        return x;
    }
}
