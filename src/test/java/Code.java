import java.util.ArrayList;
import java.util.List;

/** Writes codes and hashes for the tests, apart from the way in which the program does it. */
final class Code {
    static final int[] GENESIS = {0, 0, 0, 8, 0};
    static final int GENESIS_HASH = hash(GENESIS);

    private Code() {
    }

    /** An Integer is a number, an int[] a text of these bytes, an Object[] a list of items. */
    static int[] item(Object item) {
        if (item instanceof Integer) {
            return text(java.math.BigInteger.valueOf((Integer) item));
        }
        if (item instanceof int[]) {
            return text((int[]) item);
        }
        List<Integer> inner = new ArrayList<>();
        for (Object part : (Object[]) item) {
            for (int b : item(part)) {
                inner.add(b);
            }
        }
        return joined(192 + inner.size(), inner);
    }

    static int[] list(Object... items) {
        return item(items);
    }

    /** A list's code from the codes of its items, which need not be right ones. */
    static int[] listOfCodes(int[]... codes) {
        List<Integer> inner = new ArrayList<>();
        for (int[] code : codes) {
            for (int b : code) {
                inner.add(b);
            }
        }
        return joined(192 + inner.size(), inner);
    }

    static int[] hello(int chain, int best) {
        return list(0, chain, best);
    }

    static int[] askHeaders(int id, int from, int count) {
        return list(1, id, from, count);
    }

    static int[] headers(int id, int[]... headers) {
        Object[] lists = new Object[headers.length];
        for (int i = 0; i < headers.length; i++) {
            lists[i] = numbers(headers[i]);
        }
        return list(2, id, lists);
    }

    static int[] askBody(int id, int hash) {
        return list(3, id, hash);
    }

    static int[] body(int id, int... numbers) {
        return list(4, id, numbers(numbers));
    }

    static int[] bye() {
        return list(5);
    }

    static Object[] numbers(int... numbers) {
        Object[] items = new Object[numbers.length];
        for (int i = 0; i < numbers.length; i++) {
            items[i] = numbers[i];
        }
        return items;
    }

    /** A header behind another one, with a body's ROOT. */
    static int[] child(int[] parent, int time, int weight, int... body) {
        return new int[] {hash(parent), parent[1] + 1, time, weight, root(body)};
    }

    static int hash(int[] header) {
        int h = 7;
        for (int number : header) {
            h = mix(h, number);
        }
        return h;
    }

    static int root(int... body) {
        int h = body.length;
        for (int number : body) {
            h = mix(h, number);
        }
        return h;
    }

    private static int mix(int h, int v) {
        int t = (h ^ v) * 16777619;
        return (t ^ (t >>> 15)) & 0x7fffffff;
    }

    private static int[] text(java.math.BigInteger number) {
        if (number.signum() == 0) {
            return text(new int[0]);
        }
        byte[] signed = number.toByteArray();
        int skip = signed[0] == 0 ? 1 : 0;
        int[] bytes = new int[signed.length - skip];
        for (int i = 0; i < bytes.length; i++) {
            bytes[i] = signed[i + skip] & 255;
        }
        return text(bytes);
    }

    private static int[] text(int[] bytes) {
        if (bytes.length == 1 && bytes[0] < 128) {
            return bytes.clone();
        }
        List<Integer> inner = new ArrayList<>();
        for (int b : bytes) {
            inner.add(b);
        }
        return joined(128 + bytes.length, inner);
    }

    private static int[] joined(int first, List<Integer> rest) {
        int[] bytes = new int[rest.size() + 1];
        bytes[0] = first;
        for (int i = 0; i < rest.size(); i++) {
            bytes[i + 1] = rest.get(i);
        }
        return bytes;
    }
}
