import java.util.ArrayDeque;
import java.util.ArrayList;
import java.util.HashMap;
import java.util.List;
import java.util.Map;
import java.util.Random;

/**
 * Compares the class with the document's own words, worked out in another way: reduced forms are found by looking at
 * all, classes by going from form to form in single steps, products from forms with the same b and coprime a.
 */
public final class OracleTest {
    private static int wrong = 0;
    private static long checks = 0;

    private static void due(String call, long got, long want) {
        checks++;
        if (got != want) {
            wrong++;
            if (wrong <= 50) {
                System.out.println(call + " answered " + got + ", due is " + want);
            }
        }
    }

    private static String text(long... f) {
        StringBuilder out = new StringBuilder();
        for (long x : f) {
            out.append(x).append(' ');
        }
        return out.toString();
    }

    private static long gcd(long p, long q) {
        return q == 0 ? Math.abs(p) : gcd(q, p % q);
    }

    /** All classes of one discriminant. */
    private static final class Classes {
        final long d;
        final Map<String, Integer> classOf = new HashMap<>();
        final List<long[]> names = new ArrayList<>();
        final List<Integer> sizes = new ArrayList<>();
        final Random random = new Random(7);

        Classes(long d) {
            this.d = d;
            if (d < 0) {
                findBelow();
            } else {
                findAbove();
            }
        }

        private void findBelow() {
            for (long a = 1; 3 * a * a <= -d; a++) {
                for (long b = -a; b <= a; b++) {
                    if ((b * b - d) % (4 * a) != 0) {
                        continue;
                    }
                    long c = (b * b - d) / (4 * a);
                    boolean edge = Math.abs(b) == a || a == c;
                    if (a <= c && !(edge && b < 0) && gcd(gcd(a, b), c) == 1) {
                        classOf.put(text(a, b, c), names.size());
                        names.add(new long[] {a, b, c});
                        sizes.add(1);
                    }
                }
            }
        }

        private void findAbove() {
            for (long b = 0; b * b < d; b++) {
                if ((d - b * b) % 4 != 0) {
                    continue;
                }
                long product = (d - b * b) / 4;
                for (long a = 1; a <= product; a++) {
                    if (product % a == 0 && gcd(gcd(a, b), product / a) == 1) {
                        spread(new long[] {a, b, -product / a});
                        spread(new long[] {-a, b, product / a});
                    }
                }
            }
        }

        /** Single steps between forms with a and c of unlike signs: there are finitely many, and all hang together. */
        private void spread(long[] first) {
            if (classOf.containsKey(text(first))) {
                return;
            }
            int id = names.size();
            long[] name = null;
            int size = 0;
            ArrayDeque<long[]> open = new ArrayDeque<>();
            classOf.put(text(first), id);
            open.add(first);
            while (!open.isEmpty()) {
                long[] f = open.remove();
                if (isReducedAbove(f)) {
                    size++;
                    if (name == null || f[0] < name[0] || f[0] == name[0] && f[1] < name[1]) {
                        name = f;
                    }
                }
                long[][] near = {shift(f, 1), shift(f, -1), swap(f)};
                for (long[] g : near) {
                    if (g[0] * g[2] < 0 && classOf.putIfAbsent(text(g), id) == null) {
                        open.add(g);
                    }
                }
            }
            names.add(name);
            sizes.add(size);
        }

        private boolean isReducedAbove(long[] f) {
            long up = 2 * Math.abs(f[0]) + f[1];
            long down = 2 * Math.abs(f[0]) - f[1];
            return f[1] > 0 && f[1] * f[1] < d && d < up * up && (down < 0 || down * down < d);
        }

        static long[] shift(long[] f, long k) {
            return new long[] {f[0], f[1] + 2 * k * f[0], f[0] * k * k + f[1] * k + f[2]};
        }

        static long[] swap(long[] f) {
            return new long[] {f[2], -f[1], f[0]};
        }

        /** The class of any form: b is made small and a and c are swapped until a is not above c in size. */
        int find(long[] form) {
            long[] f = form;
            for (int i = 0; i < 1000; i++) {
                f = shift(f, Math.round(-(double) f[1] / (2.0 * f[0])));
                if (Math.abs(f[0]) <= Math.abs(f[2])) {
                    break;
                }
                f = swap(f);
            }
            for (long[] g : new long[][] {f, shift(f, 1), shift(f, -1), swap(f)}) {
                Integer id = classOf.get(text(g));
                if (id != null) {
                    return id;
                }
            }
            throw new IllegalStateException("lost " + text(form) + " of " + d);
        }

        /** Another form of the class, with a times of at most this size. */
        long[] disguise(long[] form, long most) {
            long[] f = form;
            for (int i = 0; i < 12; i++) {
                long[] g = swap(shift(f, random.nextInt(9) - 4));
                if (Math.abs(g[0]) > most || Math.abs(g[1]) > most || Math.abs(g[2]) > most) {
                    break;
                }
                f = g;
            }
            return f;
        }

        int product(int i, int j) {
            long[] f = disguise(names.get(i), 2000);
            long[] g = names.get(j);
            for (int tries = 0; tries < 10000; tries++) {
                long x = random.nextInt(21) - 10;
                long y = random.nextInt(21) - 10;
                long value = g[0] * x * x + g[1] * x * y + g[2] * y * y;
                // Beyond this the square of b might not fit a long.
                boolean fits = Math.abs(value * f[0]) < 1000000000L;
                if (fits && gcd(x, y) == 1 && gcd(value, f[0]) == 1) {
                    return find(concordant(f, at(g, x, y)));
                }
            }
            throw new IllegalStateException("no coprime forms");
        }

        /** The form g at a substitution whose first column is x, y. */
        private long[] at(long[] g, long x, long y) {
            for (long z = -10; z <= 10; z++) {
                for (long w = -10; w <= 10; w++) {
                    if (x * w - y * z == 1) {
                        long a = g[0] * x * x + g[1] * x * y + g[2] * y * y;
                        long b = 2 * g[0] * x * z + g[1] * (x * w + y * z) + 2 * g[2] * y * w;
                        return new long[] {a, b, (b * b - d) / (4 * a)};
                    }
                }
            }
            throw new IllegalStateException("no substitution");
        }

        private long[] concordant(long[] f, long[] g) {
            for (long k = 0; k < Math.abs(g[0]); k++) {
                long b = f[1] + 2 * f[0] * k;
                if ((b - g[1]) % (2 * g[0]) == 0) {
                    long a = f[0] * g[0];
                    if ((b * b - d) % (4 * a) != 0) {
                        break;
                    }
                    return new long[] {a, b, (b * b - d) / (4 * a)};
                }
            }
            throw new IllegalStateException("no common b");
        }

        int one() {
            long e = Math.floorMod(d, 2L);
            return find(new long[] {1, e, (e - d) / 4});
        }

        int inverse(int i) {
            long[] f = names.get(i);
            return find(new long[] {f[0], -f[1], f[2]});
        }
    }

    private static void put(FormComposer x, int r, long[] f) {
        x.put(r, (int) f[0], (int) f[1], (int) f[2]);
    }

    private static void dueName(String call, FormComposer x, int r, Classes all, int id) {
        long[] name = all.names.get(id);
        for (int what = 0; what < 3; what++) {
            due("D " + all.d + ": form(" + r + ", " + what + ") after " + call, x.form(r, what), name[what]);
        }
    }

    private static void compareClass(Classes all, int id) {
        FormComposer x = new FormComposer();
        x.take((int) all.d);
        long[] name = all.names.get(id);
        put(x, 0, name);
        dueName("put of the name", x, 0, all, id);
        due("D " + all.d + " count(3) of " + text(name), x.count(3), all.sizes.get(id));
        for (long most : new long[] {5000, 1 << 20, 1 << 30}) {
            long[] other = all.disguise(name, most);
            put(x, 1, other);
            dueName("put of " + text(other), x, 1, all, id);
            due("same of " + text(name) + "and " + text(other), x.same(0, 1) ? 1 : 0, 1);
        }
        x.invert(2, 0);
        dueName("invert of " + text(name), x, 2, all, all.inverse(id));
        comparePrimes(x, all.d, name);
    }

    private static void comparePrimes(FormComposer x, long d, long[] f) {
        int k = 0;
        for (int p = 3; p <= Math.abs(d); p += 2) {
            boolean isPrime = d % p == 0;
            for (int q = 3; isPrime && q * q <= p; q += 2) {
                isPrime = p % q != 0;
            }
            if (!isPrime) {
                continue;
            }
            due("D " + d + ": prime(" + k + ")", x.prime(k), p);
            boolean[] square = new boolean[p];
            for (long s = 1; s < p; s++) {
                square[(int) (s * s % p)] = true;
            }
            for (long s = -3; s <= 3; s++) {
                for (long t = -3; t <= 3; t++) {
                    long value = Math.floorMod(f[0] * s * s + f[1] * s * t + f[2] * t * t, (long) p);
                    if (value != 0) {
                        due("D " + d + ": character(0, " + k + ") of " + text(f), x.character(0, k), square[(int) value] ? 1 : -1);
                    }
                }
            }
            k++;
        }
        due("D " + d + ": count(2)", x.count(2), k);
    }

    /** The powers of a class from 0 on, until ONE comes again. */
    private static List<Integer> powers(Classes all, int id) {
        List<Integer> row = new ArrayList<>();
        int one = all.one();
        int at = one;
        do {
            row.add(at);
            at = all.product(at, id);
        } while (at != one);
        return row;
    }

    private static void compareCycle(Classes all, int id, int others) {
        FormComposer x = new FormComposer();
        x.take((int) all.d);
        put(x, 1, all.names.get(id));
        List<Integer> row = powers(all, id);
        due("D " + all.d + ": order of " + text(all.names.get(id)), x.order(1), row.size());
        int most = Math.min(others, all.names.size());
        for (int i = 0; i < most; i++) {
            int other = others >= all.names.size() ? i : all.random.nextInt(all.names.size());
            put(x, 2, all.names.get(other));
            due("D " + all.d + ": exponent of " + text(all.names.get(id)) + "to " + text(all.names.get(other)),
                    x.exponent(1, 2), row.indexOf(other));
            due("same", x.same(1, 2) ? 1 : 0, id == other ? 1 : 0);
        }
        long[] exponents = {0, 1, -1, 2, -2, 3, 17, -100, 1000003, Long.MAX_VALUE, Long.MIN_VALUE, Long.MIN_VALUE + 1};
        for (long k : exponents) {
            x.power(3, 1, k);
            dueName("power " + k + " of " + text(all.names.get(id)), x, 3, all, row.get((int) Math.floorMod(k, (long) row.size())));
        }
    }

    private static void compareProduct(Classes all, int i, int j) {
        FormComposer x = new FormComposer();
        x.take((int) all.d);
        put(x, 1, all.names.get(i));
        put(x, 2, all.names.get(j));
        int product = all.product(i, j);
        x.compose(3, 1, 2);
        dueName("compose of " + text(all.names.get(i)) + "and " + text(all.names.get(j)), x, 3, all, product);
        x.compose(1, 1, 2);
        dueName("compose into the first", x, 1, all, product);
    }

    private static void compareWhole(long d) {
        Classes all = new Classes(d);
        FormComposer x = new FormComposer();
        x.take((int) d);
        for (int r = 0; r < 8; r++) {
            dueName("take", x, r, all, all.one());
        }
        for (int i = 0; i < all.names.size(); i++) {
            compareClass(all, i);
            compareCycle(all, i, all.names.size());
            for (int j = 0; j < all.names.size(); j++) {
                compareProduct(all, i, j);
            }
        }
    }

    private static void compareSome(long d, int most) {
        Classes all = new Classes(d);
        for (int n = 0; n < most; n++) {
            int i = all.random.nextInt(all.names.size());
            compareClass(all, i);
            compareCycle(all, i, 5);
            compareProduct(all, i, i);
            compareProduct(all, i, all.inverse(i));
            compareProduct(all, i, all.random.nextInt(all.names.size()));
        }
    }

    private static boolean canBe(long d) {
        long root = Math.round(Math.sqrt(Math.abs((double) d)));
        return root * root != d && Math.floorMod(d, 4L) < 2;
    }

    public static void main(String[] args) {
        for (long d = -420; d <= 420; d++) {
            if (canBe(d)) {
                compareWhole(d);
            }
        }
        long[] large = {-1048576, -1048575, -1048571, -1048567, -1021020, -1021019, -999999, -810000, -746496, -262144, -65535,
            65537, 260101, 518400 + 4, 746496 + 360, 1021020, 1018081 + 8, 1046529 + 4, 1046529 - 4, 1048573, 1048572,
            1048569, 1048560, 1048565, 1022121 + 60, 5 * 405 * 405, 8 * 360 * 360, 13 * 280 * 280};
        for (long d : large) {
            if (canBe(d)) {
                compareSome(d, 4);
            }
        }
        System.out.println(checks + " answers compared, " + wrong + " not as due");
        if (wrong != 0) {
            System.exit(1);
        }
    }
}
