/**
 * Finds which method a message means: the classes are gone up one by one, each with its dictionary.
 * Nothing that was looked up is kept for later look-ups, so no change of a class, of a dictionary or
 * of places can leave an old answer behind.
 */
public final class MethodBook {
    public static final int NONE = -1;
    public static final int BAD = -2;

    private static final int NIL = 0;
    private static final int LAST_OBJECT = 400;
    private static final int MOST_FIELDS = 40;
    private static final int LONGEST_WAY = 100;
    private static final int CLASS_ABOVE = 0;
    private static final int DICTIONARY = 1;

    /** By number, from 1 on; null stands for one that is not made. */
    private final Thing[] things;

    private int foundMethod;

    /** Nil tells that nothing was found: a method can be nil, the class it is found in never is. */
    private int foundClass;

    public MethodBook() {
        things = new Thing[LAST_OBJECT + 1];
        foundMethod = NIL;
        foundClass = NIL;
    }

    public boolean make(int k, int n, boolean fields) {
        if (k < 1 || k > LAST_OBJECT || n < 0 || n > MOST_FIELDS) {
            return false;
        }
        // Fields name an object by its number, so those that had the old one have the new one by this.
        things[k] = new Thing(fields ? n : 0, fields);
        return true;
    }

    public boolean put(int k, int i, int v) {
        Thing thing = thingOf(k);
        if (thing == null || !isValue(v)) {
            return false;
        }
        return thing.setField(i, v);
    }

    public int get(int k, int i) {
        Thing thing = thingOf(k);
        return thing == null ? NIL : thing.field(i);
    }

    public int size(int k) {
        Thing thing = thingOf(k);
        return thing == null || !thing.ofFields ? NONE : thing.fields.length;
    }

    public int lookUp(int from, int selector) {
        foundMethod = NIL;
        foundClass = NIL;
        if (!isValue(from) || !isValue(selector)) {
            return BAD;
        }
        return goUp(from, selector);
    }

    public int method() {
        return foundMethod;
    }

    public int where() {
        return foundClass;
    }

    public int above(int selector) {
        if (foundClass == NIL) {
            return NONE;
        }
        // The class may have been made anew since, with one field, with none, or of bytes.
        return lookUp(get(objectNumber(foundClass), CLASS_ABOVE), selector);
    }

    public boolean inherits(int c, int d) {
        if (!isValue(c) || d == NIL) {
            return false;
        }
        int onTheWay = c;
        for (int looked = 0; looked < LONGEST_WAY; looked++) {
            if (onTheWay == d) {
                return true;
            }
            Thing thing = classMeantBy(onTheWay);
            if (thing == null) {
                return false;
            }
            onTheWay = thing.field(CLASS_ABOVE);
        }
        return false;
    }

    public int become(int a, int b) {
        if (thingOf(a) == null || thingOf(b) == null) {
            return NONE;
        }
        if (a == b) {
            return 0;
        }
        int changed = 0;
        for (int k = 1; k <= LAST_OBJECT; k++) {
            Thing thing = thingOf(k);
            if (thing != null) {
                changed += thing.exchange(objectValue(a), objectValue(b));
            }
        }
        return changed;
    }

    public int users(int d) {
        // Without this test the double of a number far off could be a value that stands in fields.
        if (thingOf(d) == null) {
            return 0;
        }
        int count = 0;
        for (int k = 1; k <= LAST_OBJECT; k++) {
            Thing user = thingOf(k);
            if (user != null && user.canBeClass() && user.field(DICTIONARY) == objectValue(d)) {
                count++;
            }
        }
        return count;
    }

    public int senders(int selector) {
        int count = 0;
        for (int k = 1; k <= LAST_OBJECT; k++) {
            Thing sender = thingOf(k);
            if (sender != null && sender.canBeClass()) {
                Thing dictionary = thingMeantBy(sender.field(DICTIONARY));
                if (dictionary != null && dictionary.placeOfMethod(selector) != NONE) {
                    count++;
                }
            }
        }
        return count;
    }

    private int goUp(int from, int selector) {
        int onTheWay = from;
        for (int passed = 0; passed < LONGEST_WAY; passed++) {
            if (onTheWay == NIL) {
                return NONE;
            }
            Thing thing = classMeantBy(onTheWay);
            if (thing == null || hasBadDictionary(thing)) {
                return BAD;
            }
            if (findIn(thingMeantBy(thing.field(DICTIONARY)), selector)) {
                foundClass = onTheWay;
                return passed;
            }
            onTheWay = thing.field(CLASS_ABOVE);
        }
        // Nil is no class, so a way that ends just here has asked for no class too many.
        return onTheWay == NIL ? NONE : BAD;
    }

    private boolean hasBadDictionary(Thing thing) {
        int value = thing.field(DICTIONARY);
        Thing dictionary = thingMeantBy(value);
        return value != NIL && (dictionary == null || !dictionary.ofFields);
    }

    private boolean findIn(Thing dictionary, int selector) {
        int place = dictionary == null ? NONE : dictionary.placeOfMethod(selector);
        if (place == NONE) {
            return false;
        }
        foundMethod = dictionary.field(place);
        return true;
    }

    private boolean isValue(int v) {
        return v == NIL || isNumber(v) || thingMeantBy(v) != null;
    }

    private static boolean isNumber(int v) {
        return (v & 1) == 1;
    }

    /** The object of that number, or null when it is not made. */
    private Thing thingOf(int k) {
        return k < 1 || k > LAST_OBJECT ? null : things[k];
    }

    private Thing thingMeantBy(int v) {
        return isNumber(v) ? null : thingOf(objectNumber(v));
    }

    private static int objectNumber(int object) {
        return object >> 1;
    }

    private static int objectValue(int k) {
        return k << 1;
    }

    private Thing classMeantBy(int v) {
        Thing thing = thingMeantBy(v);
        return thing == null || !thing.canBeClass() ? null : thing;
    }

    /** An object that is made; one of bytes has no fields at all. */
    private static final class Thing {
        private final int[] fields;
        private final boolean ofFields;

        private Thing(int count, boolean ofFields) {
            this.fields = new int[count];
            this.ofFields = ofFields;
        }

        private boolean canBeClass() {
            return fields.length >= 2;
        }

        private boolean hasField(int i) {
            return i >= 0 && i < fields.length;
        }

        private int field(int i) {
            return hasField(i) ? fields[i] : NIL;
        }

        private boolean setField(int i, int v) {
            if (!hasField(i)) {
                return false;
            }
            fields[i] = v;
            return true;
        }

        /** Where the method behind the first such selector stands; NONE when there is no such selector. */
        private int placeOfMethod(int selector) {
            for (int i = 0; i + 1 < fields.length; i += 2) {
                if (fields[i] == selector) {
                    return i + 1;
                }
            }
            return NONE;
        }

        private int exchange(int one, int other) {
            int changed = 0;
            for (int i = 0; i < fields.length; i++) {
                if (fields[i] == one) {
                    fields[i] = other;
                    changed++;
                } else if (fields[i] == other) {
                    fields[i] = one;
                    changed++;
                }
            }
            return changed;
        }
    }
}
