/** Each promise of the document with ordinary inputs, its edges and wrong inputs; answers worked out apart from the class. */
public final class PromiseTest {
    private static final int FINE = 0;
    private static final int INDEX = 1;
    private static final int ARGUMENT = 2;
    private static final int[] NO_REGISTERS = {-1, 8, 9, 256, -8, Integer.MAX_VALUE, Integer.MIN_VALUE};

    private static int wrong = 0;

    private interface Call {
        void run();
    }

    private static void due(String call, long got, long want) {
        if (got != want) {
            wrong++;
            System.out.println(call + " answered " + got + ", due is " + want);
        }
    }

    private static int thrown(Call call) {
        try {
            call.run();
            return FINE;
        } catch (RuntimeException e) {
            // The very classes: a class below them would be the machine's own.
            return e.getClass() == IndexOutOfBoundsException.class ? INDEX
                    : e.getClass() == IllegalArgumentException.class ? ARGUMENT : -1;
        }
    }

    private static void dueThrown(String call, Call run, int want) {
        due(call + " throws (1 IndexOutOfBoundsException, 2 IllegalArgumentException, 0 nothing)", thrown(run), want);
    }

    private static void dueName(String when, FormComposer x, int r, int a, int b, int c) {
        due(when + ": form(" + r + ", 0)", x.form(r, 0), a);
        due(when + ": form(" + r + ", 1)", x.form(r, 1), b);
        due(when + ": form(" + r + ", 2)", x.form(r, 2), c);
    }

    private static FormComposer of(int d) {
        FormComposer x = new FormComposer();
        x.take(d);
        return x;
    }

    private static void promise1() {
        FormComposer x = new FormComposer();
        due("1: count(0)", x.count(0), -4);
        due("1: count(1)", x.count(1), -1);
        due("1: count(2)", x.count(2), 0);
        due("1: count(3)", x.count(3), 1);
        for (int r = 0; r < 8; r++) {
            dueName("1: new", x, r, 1, 0, 1);
        }
        FormComposer other = new FormComposer();
        other.take(5);
        due("1: another object has its own D", x.count(0), -4);
        dueName("1: another object has its own registers", x, 3, 1, 0, 1);
    }

    private static void promise2() {
        int[][] ones = {{5, -1, 1, 1}, {8, -1, 2, 1}, {12, -2, 2, 1}, {13, -1, 3, 1}, {21, -3, 3, 1}, {28, -3, 2, 2},
            {45, -5, 5, 1}, {60, -6, 6, 1}, {229, -1, 15, 1}, {1048572, -1022, 1022, 1}, {1048573, -979, 971, 27},
            {-3, 1, 1, 1}, {-4, 1, 0, 1}, {-7, 1, 1, 2}, {-8, 1, 0, 2}, {-12, 1, 0, 3}, {-1048575, 1, 1, 262144},
            {-1048576, 1, 0, 262144}};
        FormComposer taker = new FormComposer();
        for (int[] one : ones) {
            taker.take(one[0]);
            due("2: count(0) of " + one[0], taker.count(0), one[0]);
            for (int r = 0; r < 8; r++) {
                dueName("2: take(" + one[0] + ")", taker, r, one[1], one[2], one[3]);
            }
        }
        FormComposer x = of(-23);
        x.put(3, 2, 1, 3);
        int[] not = {0, 1, 4, 9, 16, 1048576, 1046529, 2, 3, 6, 7, 42, 43, -1, -2, -5, -6, 1048577, 1048580, -1048577, -1048579,
            -1048580, Integer.MAX_VALUE, Integer.MIN_VALUE, Integer.MIN_VALUE + 1, 2147483644};
        for (int d : not) {
            dueThrown("2: take(" + d + ")", () -> x.take(d), ARGUMENT);
            due("2: count(0) after take(" + d + ")", x.count(0), -23);
            dueName("2: nothing changes", x, 3, 2, 1, 3);
            dueName("2: nothing changes", x, 0, 1, 1, 6);
        }
        x.take(-23);
        dueName("2: the same D again", x, 3, 1, 1, 6);
    }

    private static void promise3() {
        FormComposer x = of(-23);
        int[][] forms = {{1, 1, 6, 1, 1, 6}, {6, -1, 1, 1, 1, 6}, {2, 1, 3, 2, 1, 3}, {2, -1, 3, 2, -1, 3}, {3, 1, 2, 2, -1, 3},
            {2, 5, 6, 2, 1, 3}, {2, 3, 4, 2, -1, 3}, {6, 5, 2, 2, -1, 3}, {1073741824, 203854803, 9675692, 1, 1, 6}};
        for (int[] f : forms) {
            x.put(5, f[0], f[1], f[2]);
            dueName("3: put(5, " + f[0] + ", " + f[1] + ", " + f[2] + ")", x, 5, f[3], f[4], f[5]);
        }
        dueName("3: other registers stay", x, 4, 1, 1, 6);
        dueName("3: other registers stay", x, 6, 1, 1, 6);
        for (int r = 0; r < 8; r++) {
            x.put(r, 2, -1, 3);
            dueName("3: put to each", x, r, 2, -1, 3);
        }
        x.put(5, 2, 1, 3);
        int[][] not = {{0, 0, 0}, {1, 1, 5}, {-2, 1, -3}, {-1, 1, -6}, {0, 1, 6}, {2, 1, -3}, {1, 2, 6},
            {1, Integer.MAX_VALUE, 6}, {Integer.MIN_VALUE, 1, 6}, {Integer.MIN_VALUE, Integer.MIN_VALUE, Integer.MIN_VALUE}};
        for (int[] f : not) {
            dueThrown("3: put(5, " + f[0] + ", " + f[1] + ", " + f[2] + ")", () -> x.put(5, f[0], f[1], f[2]), ARGUMENT);
            dueName("3: nothing changes", x, 5, 2, 1, 3);
        }
        for (int r : NO_REGISTERS) {
            dueThrown("3: put(" + r + ", 1, 1, 6)", () -> x.put(r, 1, 1, 6), INDEX);
            dueThrown("3: put(" + r + ", 1, 1, 5)", () -> x.put(r, 1, 1, 5), INDEX);
        }
    }

    private static void promise3Edges() {
        duePut(-92, 2, 2, 12, ARGUMENT);
        duePut(-92, 3, 2, 8, FINE);
        duePut(-12, 2, 2, 2, ARGUMENT);
        duePut(-207, 6, 3, 9, ARGUMENT);
        duePut(45, 3, 3, -3, ARGUMENT);
        duePut(45, -3, -3, 3, ARGUMENT);
        duePut(45, -1, 5, 5, FINE);
        duePut(-4, 536838145, 1073741824, 536903681, FINE);
        duePut(-4, 536838145, -1073741824, 536903681, FINE);
        duePut(32, 413414167, 1073741824, 697195208, FINE);
        duePut(32, -413414167, -1073741824, -697195208, FINE);
        duePut(-262140, 1, 65534, 1073741824, FINE);
        duePut(-262144, 1, 65534, 1073741825, ARGUMENT);
        duePut(-262144, 1073741825, 65534, 1, ARGUMENT);
        duePut(262148, -1, 65538, -1073741824, FINE);
        duePut(262148, -1073741824, 65538, -1, FINE);
        duePut(262140, -1, 65538, -1073741826, ARGUMENT);
        duePut(262140, -1073741826, 65538, -1, ARGUMENT);
        // The discriminants of these are D only if they are worked out modulo 2 to the 32nd.
        duePut(-4, 3, 0, 715827883, ARGUMENT);
        duePut(5, 795913127, -1008687085, -1053894657, ARGUMENT);
        duePut(-8, 1, 65536, 2, ARGUMENT);
        // b alone is one beyond the range.
        duePut(5, 330837245, 1073741825, 871215019, ARGUMENT);
        duePut(-27, 508058641, -1073741825, 567317143, ARGUMENT);
        FormComposer x = of(33);
        x.put(1, -1073741824, 633169809, -93342738);
        dueName("3: wide", x, 1, -3, 3, 2);
        x.put(1, 1073741824, -633169809, 93342738);
        dueName("3: wide", x, 1, -2, 3, 3);
        x.take(-1048575);
        x.put(1, 1073741824, -524287, 64);
        dueName("3: wide", x, 1, 64, -1, 4096);
        x.put(1, 64, -524287, 1073741824);
        dueName("3: wide", x, 1, 64, 1, 4096);
        x.take(1048561);
        x.put(1, -1073741824, 650754855, -98599559);
        dueName("3: wide", x, 1, -636, 527, 303);
    }

    private static void duePut(int d, int a, int b, int c, int want) {
        FormComposer x = of(d);
        dueThrown("3: take(" + d + "), put(0, " + a + ", " + b + ", " + c + ")", () -> x.put(0, a, b, c), want);
    }

    private static void promise4() {
        FormComposer x = of(-47);
        x.put(1, 2, 1, 6);
        x.compose(2, 1, 1);
        dueName("4: square", x, 2, 3, -1, 4);
        x.compose(3, 2, 1);
        dueName("4: third", x, 3, 3, 1, 4);
        x.compose(4, 1, 3);
        dueName("4: fourth", x, 4, 2, -1, 6);
        x.compose(5, 2, 3);
        dueName("4: fifth", x, 5, 1, 1, 12);
        x.compose(6, 0, 1);
        dueName("4: ONE times", x, 6, 2, 1, 6);
        dueName("4: the factors stay", x, 1, 2, 1, 6);
        x.compose(1, 1, 2);
        dueName("4: into the first", x, 1, 3, 1, 4);
        x.compose(2, 1, 2);
        dueName("4: into the second", x, 2, 1, 1, 12);
        x.compose(3, 3, 3);
        dueName("4: into both", x, 3, 2, 1, 6);
        for (int r : NO_REGISTERS) {
            dueThrown("4: compose(" + r + ", 1, 1)", () -> x.compose(r, 1, 1), INDEX);
            dueThrown("4: compose(7, " + r + ", 1)", () -> x.compose(7, r, 1), INDEX);
            dueThrown("4: compose(7, 1, " + r + ")", () -> x.compose(7, 1, r), INDEX);
        }
        dueName("4: nothing changes", x, 7, 1, 1, 12);
        x.take(229);
        x.put(1, 3, 13, -5);
        x.compose(2, 1, 1);
        x.put(3, 3, -13, -5);
        due("4: above 0, the square is the inverse", x.same(2, 3) ? 1 : 0, 1);
        due("4: above 0, it is not the class", x.same(2, 1) ? 1 : 0, 0);
        x.compose(2, 2, 1);
        dueName("4: above 0, third", x, 2, -1, 15, 1);
        x.take(12);
        x.put(1, -1, 0, 3);
        x.compose(2, 1, 1);
        dueName("4: (-1, 0, 3)", x, 1, -1, 2, 2);
        dueName("4: squared", x, 2, -2, 2, 1);
    }

    private static void promise5() {
        FormComposer x = of(-23);
        x.put(1, 2, 1, 3);
        x.invert(2, 1);
        dueName("5: invert", x, 2, 2, -1, 3);
        dueName("5: it stays", x, 1, 2, 1, 3);
        x.invert(1, 1);
        dueName("5: into itself", x, 1, 2, -1, 3);
        x.invert(0, 0);
        dueName("5: of ONE", x, 0, 1, 1, 6);
        for (int r : NO_REGISTERS) {
            dueThrown("5: invert(" + r + ", 1)", () -> x.invert(r, 1), INDEX);
            dueThrown("5: invert(1, " + r + ")", () -> x.invert(1, r), INDEX);
        }
        dueName("5: nothing changes", x, 1, 2, -1, 3);
        x.take(-20);
        x.put(1, 2, 2, 3);
        x.invert(2, 1);
        dueName("5: of order 2", x, 2, 2, 2, 3);
        x.take(-84);
        x.put(1, 5, 4, 5);
        x.invert(2, 1);
        dueName("5: a = c", x, 2, 5, 4, 5);
        x.take(229);
        x.put(1, 3, 13, -5);
        x.invert(2, 1);
        due("5: above 0", x.same(1, 2) ? 1 : 0, 0);
        x.compose(3, 1, 2);
        due("5: above 0, their product", x.same(3, 0) ? 1 : 0, 1);
    }

    private static void promise6() {
        FormComposer x = of(-47);
        x.put(1, 2, 1, 6);
        int[][] names = {{1, 1, 12}, {2, 1, 6}, {3, -1, 4}, {3, 1, 4}, {2, -1, 6}};
        long[] exponents = {0, 1, 2, 3, 4, 5, 6, -1, -2, -3, -4, -5, -6, 1L << 32, (1L << 32) + 1, -(1L << 40), 1L << 62,
            Long.MAX_VALUE, Long.MAX_VALUE - 1, Long.MIN_VALUE, Long.MIN_VALUE + 1};
        for (long k : exponents) {
            int[] want = names[(int) Math.floorMod(k, 5L)];
            x.power(2, 1, k);
            dueName("6: power(2, 1, " + k + ")", x, 2, want[0], want[1], want[2]);
        }
        dueName("6: it stays", x, 1, 2, 1, 6);
        x.power(1, 1, -2);
        dueName("6: into itself", x, 1, 3, 1, 4);
        x.power(3, 0, Long.MIN_VALUE);
        dueName("6: of ONE", x, 3, 1, 1, 12);
        for (int r : NO_REGISTERS) {
            dueThrown("6: power(" + r + ", 1, 2)", () -> x.power(r, 1, 2), INDEX);
            dueThrown("6: power(1, " + r + ", 2)", () -> x.power(1, r, 2), INDEX);
            dueThrown("6: power(1, " + r + ", 0)", () -> x.power(1, r, 0), INDEX);
        }
        dueName("6: nothing changes", x, 1, 3, 1, 4);
        x.take(136);
        x.put(1, 3, 10, -3);
        x.power(2, 1, 2);
        due("6: above 0", x.form(2, 0), -2);
        x.power(2, 1, Long.MIN_VALUE);
        due("6: above 0, Long.MIN_VALUE", x.same(2, 0) ? 1 : 0, 1);
        x.power(2, 1, Long.MAX_VALUE);
        x.invert(3, 1);
        due("6: above 0, Long.MAX_VALUE", x.same(2, 3) ? 1 : 0, 1);
        due("6: above 0, not itself", x.same(2, 1) ? 1 : 0, 0);
    }

    private static void promise7() {
        FormComposer x = of(-20);
        x.put(7, 3, -2, 2);
        dueName("7: form", x, 7, 2, 2, 3);
        for (int r : NO_REGISTERS) {
            dueThrown("7: form(" + r + ", 0)", () -> x.form(r, 0), INDEX);
        }
        for (int what : new int[] {-1, 3, 4, Integer.MAX_VALUE, Integer.MIN_VALUE}) {
            dueThrown("7: form(7, " + what + ")", () -> x.form(7, what), INDEX);
        }
        x.put(1, 3, 2, 2);
        x.put(2, 3, 4, 3);
        dueName("7: b = a", x, 1, 2, 2, 3);
        dueName("7: b = a", x, 2, 2, 2, 3);
        // (-2, 1, 2) and (-2, 3, 1) are both reduced and of one class: of the least a, the least b counts.
        x.take(17);
        x.put(1, -2, 3, 1);
        dueName("7: least b", x, 1, -2, 1, 2);
    }

    private static void promise8() {
        FormComposer x = of(-23);
        x.put(1, 2, 1, 3);
        x.put(2, 2, -1, 3);
        x.put(3, 3, -1, 2);
        due("8: same(1, 2)", x.same(1, 2) ? 1 : 0, 0);
        due("8: same(1, 3)", x.same(1, 3) ? 1 : 0, 1);
        due("8: same(3, 1)", x.same(3, 1) ? 1 : 0, 1);
        due("8: same(1, 0)", x.same(1, 0) ? 1 : 0, 0);
        due("8: same(6, 0)", x.same(6, 0) ? 1 : 0, 1);
        due("8: same(2, 2)", x.same(2, 2) ? 1 : 0, 1);
        for (int r : NO_REGISTERS) {
            dueThrown("8: same(" + r + ", 1)", () -> x.same(r, 1), INDEX);
            dueThrown("8: same(1, " + r + ")", () -> x.same(1, r), INDEX);
            dueThrown("8: same(" + r + ", " + r + ")", () -> x.same(r, r), INDEX);
        }
        // 3 has no root of -1 modulo it, so (1, 0, -3) and (-1, 0, 3) differ; modulo 5 there is one.
        x.take(12);
        x.put(1, -1, 0, 3);
        due("8: D 12, same(1, 0)", x.same(1, 0) ? 1 : 0, 0);
        x.take(5);
        x.put(1, -1, 1, 1);
        due("8: D 5, same(1, 0)", x.same(1, 0) ? 1 : 0, 1);
    }

    private static void promise9() {
        int[][] orders = {{-23, 2, 1, 3, 3}, {-47, 2, 1, 6, 5}, {-71, 2, 1, 9, 7}, {-20, 2, 2, 3, 2}, {-84, 3, 0, 7, 2},
            {-3299, 3, 1, 275, 9}, {-108, 4, 2, 7, 3}, {-1048575, 2, 1, 131072, 18}, {229, 3, 13, -5, 3}, {12, -1, 0, 3, 2},
            {136, 3, 10, -3, 4}, {40, 2, 0, -5, 2}, {5, 1, 1, -1, 1}, {-3, 1, 1, 1, 1}};
        FormComposer x = new FormComposer();
        for (int[] o : orders) {
            x.take(o[0]);
            x.put(1, o[1], o[2], o[3]);
            due("9: D " + o[0] + ", order(1)", x.order(1), o[4]);
            due("9: D " + o[0] + ", order(0)", x.order(0), 1);
            x.power(2, 1, o[4]);
            due("9: D " + o[0] + ", the power", x.same(2, 0) ? 1 : 0, 1);
        }
        for (int r : NO_REGISTERS) {
            dueThrown("9: order(" + r + ")", () -> x.order(r), INDEX);
        }
    }

    private static void promise10() {
        FormComposer x = of(-47);
        x.put(1, 2, 1, 6);
        for (int k = 0; k < 5; k++) {
            x.power(2, 1, k);
            due("10: exponent of power " + k, x.exponent(1, 2), k);
        }
        due("10: exponent(1, 1)", x.exponent(1, 1), 1);
        due("10: exponent(0, 0)", x.exponent(0, 0), 0);
        due("10: exponent(0, 1)", x.exponent(0, 1), -1);
        due("10: exponent(1, 0)", x.exponent(1, 0), 0);
        for (int r : NO_REGISTERS) {
            dueThrown("10: exponent(" + r + ", 1)", () -> x.exponent(r, 1), INDEX);
            dueThrown("10: exponent(1, " + r + ")", () -> x.exponent(1, r), INDEX);
        }
        x.take(-84);
        x.put(1, 3, 0, 7);
        x.put(2, 2, 2, 11);
        due("10: D -84, exponent(1, 2)", x.exponent(1, 2), -1);
        x.take(136);
        x.put(1, 3, 10, -3);
        x.power(2, 1, 3);
        due("10: D 136, exponent(1, 2)", x.exponent(1, 2), 3);
        due("10: D 136, exponent(2, 1)", x.exponent(2, 1), 3);
        x.power(2, 1, 2);
        due("10: D 136, exponent(2, 1)", x.exponent(2, 1), -1);
    }

    private static void promise11() {
        int[][] counts = {{-4, -1, 0, 1}, {-3, -1, 1, 1}, {-84, -1, 2, 1}, {5, 2, 1, 2}, {8, 2, 0, 2}, {40, 6, 1, 2},
            {136, 11, 1, 4}, {17, 4, 1, 6}, {41, 6, 1, 10}, {1048573, 1023, 1, 1106}, {1048572, 1023, 4, 2}, {1021020, 1010, 6, 10},
            {-1048576, -1, 0, 1}, {-1048575, -1, 5, 1}, {524288, 724, 0, 196}, {1046533, 1023, 2, 2}};
        FormComposer x = new FormComposer();
        for (int[] c : counts) {
            x.take(c[0]);
            due("11: count(0)", x.count(0), c[0]);
            due("11: D " + c[0] + ", count(1)", x.count(1), c[1]);
            due("11: D " + c[0] + ", count(2)", x.count(2), c[2]);
            due("11: D " + c[0] + ", count(3)", x.count(3), c[3]);
            for (int what : new int[] {-1, 4, 5, Integer.MAX_VALUE, Integer.MIN_VALUE}) {
                due("11: count(" + what + ")", x.count(what), -1);
            }
        }
        x.take(33);
        due("11: D 33, ONE", x.count(3), 4);
        x.take(229);
        x.put(1, 3, 13, -5);
        due("11: register 0 alone counts", x.count(3), 2);
        x.put(0, 3, 13, -5);
        due("11: another class", x.count(3), 6);
        dueName("11: counting changes nothing", x, 0, -9, 11, 3);
    }

    private static void promise12() {
        int[][] primes = {{-4}, {8}, {-1048576}, {-23, 23}, {-84, 3, 7}, {45, 3, 5}, {-108, 3}, {1021020, 3, 5, 7, 11, 13, 17},
            {-1021020, 3, 5, 7, 11, 13, 17}, {1048573, 1048573}, {-1048571, 1048571}, {1046528, 7, 73}, {-1036324, 509}};
        FormComposer x = new FormComposer();
        for (int[] row : primes) {
            x.take(row[0]);
            due("12: D " + row[0] + ", count(2)", x.count(2), row.length - 1);
            for (int k = 1; k < row.length; k++) {
                due("12: D " + row[0] + ", prime(" + (k - 1) + ")", x.prime(k - 1), row[k]);
            }
            for (int k : new int[] {-1, row.length - 1, row.length, 6, 7, 8, 1000, Integer.MAX_VALUE, Integer.MIN_VALUE}) {
                dueThrown("12: D " + row[0] + ", prime(" + k + ")", () -> x.prime(k), INDEX);
            }
        }
    }

    private static void promise13() {
        int[][] rows = {{-84, 1, 0, 21, 1, 1}, {-84, 3, 0, 7, 1, -1}, {-84, 2, 2, 11, -1, 1}, {-84, 5, 4, 5, -1, -1},
            {12, 1, 0, -3, 1}, {12, -1, 0, 3, -1}, {5, -1, 1, 1, 1}, {40, 2, 0, -5, -1}, {60, 1, 0, -15, 1, 1},
            {60, -1, 0, 15, -1, 1}, {60, 3, 0, -5, 1, -1}, {60, -3, 0, 5, -1, -1}, {-23, 2, 1, 3, 1}, {-15, 2, 1, 2, -1, -1}};
        FormComposer x = new FormComposer();
        for (int[] row : rows) {
            x.take(row[0]);
            x.put(6, row[1], row[2], row[3]);
            for (int k = 4; k < row.length; k++) {
                String call = "13: D " + row[0] + " (" + row[1] + ", " + row[2] + ", " + row[3] + "): character(6, " + (k - 4) + ")";
                due(call, x.character(6, k - 4), row[k]);
                due("13: of ONE", x.character(0, k - 4), 1);
            }
        }
        x.take(-84);
        for (int r : NO_REGISTERS) {
            dueThrown("13: character(" + r + ", 0)", () -> x.character(r, 0), INDEX);
            dueThrown("13: character(" + r + ", 2)", () -> x.character(r, 2), INDEX);
        }
        for (int k : new int[] {-1, 2, 3, 6, 8, Integer.MAX_VALUE, Integer.MIN_VALUE}) {
            dueThrown("13: character(0, " + k + ")", () -> x.character(0, k), INDEX);
        }
        x.take(-4);
        dueThrown("13: D -4, character(0, 0)", () -> x.character(0, 0), INDEX);
    }

    public static void main(String[] args) {
        promise1();
        promise2();
        promise3();
        promise3Edges();
        promise4();
        promise5();
        promise6();
        promise7();
        promise8();
        promise9();
        promise10();
        promise11();
        promise12();
        promise13();
        System.out.println(wrong == 0 ? "all answers are as due" : wrong + " answers are not as due");
        if (wrong != 0) {
            System.exit(1);
        }
    }
}
