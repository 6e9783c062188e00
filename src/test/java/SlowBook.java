import java.util.ArrayList;
import java.util.HashMap;
import java.util.List;
import java.util.Map;

/** The document once more, written otherwise: lists in a map, and the way up as a list. */
final class SlowBook {
    /** By value; a list of fields, or null for an object of bytes. */
    private final Map<Integer, List<Integer>> made = new HashMap<>();
    private final List<Integer> found = new ArrayList<>();

    private boolean isValue(int v) {
        return v == 0 || v % 2 != 0 || made.containsKey(v);
    }

    private static int valueOf(int k) {
        return k >= 1 && k <= 400 ? 2 * k : -2;
    }

    private List<Integer> fieldsOf(int v) {
        List<Integer> fields = made.get(v);
        return fields == null ? List.of() : fields;
    }

    boolean make(int k, int n, boolean fields) {
        if (valueOf(k) < 0 || n < 0 || n > 40) {
            return false;
        }
        List<Integer> nils = new ArrayList<>();
        while (nils.size() < n) {
            nils.add(0);
        }
        made.put(valueOf(k), fields ? nils : null);
        return true;
    }

    boolean put(int k, int i, int v) {
        boolean can = i >= 0 && i < fieldsOf(valueOf(k)).size() && isValue(v);
        if (can) {
            fieldsOf(valueOf(k)).set(i, v);
        }
        return can;
    }

    int get(int k, int i) {
        List<Integer> fields = fieldsOf(valueOf(k));
        return i >= 0 && i < fields.size() ? fields.get(i) : 0;
    }

    int size(int k) {
        List<Integer> fields = made.get(valueOf(k));
        return fields == null ? -1 : fields.size();
    }

    /** What is looked at from c on, up to a hundred and one; the last may be no class. */
    private List<Integer> wayFrom(int c) {
        List<Integer> way = new ArrayList<>();
        way.add(c);
        while (way.size() <= 100 && fieldsOf(way.get(way.size() - 1)).size() >= 2) {
            way.add(fieldsOf(way.get(way.size() - 1)).get(0));
        }
        return way;
    }

    private boolean hasBadDictionary(int c) {
        int dictionary = fieldsOf(c).get(1);
        return dictionary != 0 && made.get(dictionary) == null;
    }

    /** The selectors of a dictionary in their places, or none. */
    private List<Integer> selectorsOf(int c) {
        List<Integer> dictionary = fieldsOf(fieldsOf(c).get(1));
        List<Integer> selectors = new ArrayList<>();
        for (int i = 0; i < dictionary.size() / 2; i++) {
            selectors.add(dictionary.get(2 * i));
        }
        return selectors;
    }

    int lookUp(int from, int selector) {
        found.clear();
        if (!isValue(from) || !isValue(selector)) {
            return -2;
        }
        List<Integer> way = wayFrom(from);
        for (int c : way) {
            if (c == 0) {
                return -1;
            }
            int passed = way.indexOf(c);
            if (fieldsOf(c).size() < 2 || hasBadDictionary(c)) {
                return -2;
            }
            int place = selectorsOf(c).indexOf(selector);
            if (place >= 0 && passed < 100) {
                found.add(fieldsOf(fieldsOf(c).get(1)).get(2 * place + 1));
                found.add(c);
                return passed;
            }
        }
        return -2;
    }

    int method() {
        return found.isEmpty() ? 0 : found.get(0);
    }

    int where() {
        return found.isEmpty() ? 0 : found.get(1);
    }

    int above(int selector) {
        return found.isEmpty() ? -1 : lookUp(get(where() / 2, 0), selector);
    }

    boolean inherits(int c, int d) {
        List<Integer> way = wayFrom(c);
        return isValue(c) && d != 0 && way.subList(0, Math.min(100, way.size())).contains(d);
    }

    int become(int a, int b) {
        int one = valueOf(a);
        int other = valueOf(b);
        if (!made.containsKey(one) || !made.containsKey(other)) {
            return -1;
        }
        int[] changed = {0};
        for (List<Integer> fields : made.values()) {
            if (fields != null && one != other) {
                fields.replaceAll(v -> {
                    changed[0] += v == one || v == other ? 1 : 0;
                    return v == one ? other : v == other ? one : v;
                });
            }
        }
        return changed[0];
    }

    int users(int d) {
        int count = 0;
        for (List<Integer> fields : made.values()) {
            count += fields != null && fields.size() >= 2 && fields.get(1) == valueOf(d) ? 1 : 0;
        }
        return count;
    }

    int senders(int selector) {
        int count = 0;
        for (int c : made.keySet()) {
            count += fieldsOf(c).size() >= 2 && selectorsOf(c).contains(selector) ? 1 : 0;
        }
        return count;
    }
}
