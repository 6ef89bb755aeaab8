import java.util.ArrayList;
import java.util.List;
import java.util.TreeSet;
import java.util.function.BiConsumer;
import java.util.function.Consumer;
import java.util.function.Supplier;

/**
 * Each sentence of the document that names a boundary, in a method of its own. A refused call is also asked what stands
 * afterwards. No object is used for more than the 512 calls that the document speaks of.
 */
public final class BoundaryTest {
    private static final Class<?> INDEX = IndexOutOfBoundsException.class;
    private static final Class<?> ARGUMENT = IllegalArgumentException.class;
    private static final int LEAST = Integer.MIN_VALUE;
    private static final int GREATEST = Integer.MAX_VALUE;
    private static final int WIDE = 1073741824;
    private static final int[] NO_REGISTERS = {-1, 8, LEAST, GREATEST};
    /** D, a form, its order; the orders were worked out apart from the class, from the document's product. */
    private static final int[][] ORDERS = {{-4, 1, 0, 1, 1}, {5, 1, 1, -1, 1}, {12, -1, 0, 3, 2}, {-23, 2, 1, 3, 3},
        {136, 3, 10, -3, 4}, {-47, 2, 1, 6, 5}, {-71, 2, 1, 9, 7}, {1001001, 5, 1, -50050, 234}, {-1046471, 2, 1, 130809, 1866}};
    /** D and the odd primes that go into it: none, one, and six, which are as many as there can be. */
    private static final int[][] PRIMES = {
        {-4}, {-8}, {8}, {-16}, {32}, {128}, {524288}, {-524288}, {-1048576}, {-3, 3}, {5, 5}, {12, 3}, {45, 3, 5},
        {-27, 3}, {-1048575, 3, 5, 11, 31, 41}, {1048573, 1048573}, {-1048571, 1048571}, {1046533, 97, 10789},
        {-1036324, 509}, {1021020, 3, 5, 7, 11, 13, 17}, {-1021020, 3, 5, 7, 11, 13, 17},
        {-255255, 3, 5, 7, 11, 13, 17}, {285285, 3, 5, 7, 11, 13, 19}, {765765, 3, 5, 7, 11, 13, 17},
        {1006005, 3, 5, 7, 11, 13, 67}, {-1036035, 3, 5, 7, 11, 13, 23}};

    private static int wrong = 0;

    private static void due(String call, Object got, Object want) {
        if (!got.equals(want)) {
            wrong++;
            System.out.println(call + " answered " + got + ", due is " + want);
        }
    }

    /** The very class: a class below it would be the machine's own. */
    private static Object thrown(FormComposer x, Consumer<FormComposer> run) {
        try {
            run.accept(x);
            return "nothing";
        } catch (RuntimeException e) {
            return e.getClass();
        }
    }

    private static String name(FormComposer x, int r) {
        return text(x.form(r, 0), x.form(r, 1), x.form(r, 2));
    }

    private static String text(int a, int b, int c) {
        return "(" + a + ", " + b + ", " + c + ")";
    }

    /** All that an object can be asked without changing it, in at most 35 calls. */
    private static String state(FormComposer x) {
        StringBuilder all = new StringBuilder();
        for (int what = 0; what < 4; what++) {
            all.append(x.count(what)).append(' ');
        }
        int primes = x.count(2);
        for (int k = 0; k < primes; k++) {
            all.append(x.prime(k)).append(' ');
        }
        for (int r = 0; r < 8; r++) {
            all.append(name(x, r));
        }
        return all.toString();
    }

    private static String later(FormComposer x) {
        x.compose(7, 1, 2);
        x.invert(6, 1);
        x.power(5, 2, -3);
        return state(x) + x.order(1) + " " + x.exponent(1, 7) + " " + x.same(6, 7);
    }

    private static void refused(String call, Supplier<FormComposer> make, Consumer<FormComposer> run, Class<?> want) {
        FormComposer x = make.get();
        String before = state(x);
        due(call + ": thrown", thrown(x, run), want);
        due(call + ": state afterwards", state(x), before);
        due(call + ": later calls", later(x), later(make.get()));
    }

    private static void fine(String call, FormComposer x, Consumer<FormComposer> run) {
        due(call + ": thrown", thrown(x, run), "nothing");
    }

    private static FormComposer of(int d) {
        FormComposer x = new FormComposer();
        x.take(d);
        return x;
    }

    /** Register 0 holds the form, 1 its first power, 2 its second one and so on. */
    private static FormComposer filled(int d, int a, int b, int c) {
        FormComposer x = of(d);
        x.put(0, a, b, c);
        x.put(1, a, b, c);
        for (int r = 2; r < 8; r++) {
            x.compose(r, r - 1, 1);
        }
        return x;
    }

    private static FormComposer below() {
        return filled(-47, 2, 1, 6);
    }

    private static FormComposer above() {
        return filled(136, 3, 10, -3);
    }

    private static List<Supplier<FormComposer>> states() {
        List<Supplier<FormComposer>> all = new ArrayList<>();
        all.add(FormComposer::new);
        all.add(BoundaryTest::below);
        all.add(BoundaryTest::above);
        return all;
    }

    /** The call is refused for each register that is none, in each state; 0 and 7 are registers. */
    private static void dueRegister(String call, BiConsumer<FormComposer, Integer> run) {
        for (Supplier<FormComposer> make : states()) {
            for (int r : NO_REGISTERS) {
                refused(call + " with r = " + r, make, x -> run.accept(x, r), INDEX);
            }
            fine(call + " with r = 0", make.get(), x -> run.accept(x, 0));
            fine(call + " with r = 7", make.get(), x -> run.accept(x, 7));
        }
    }

    /** Terms: "D, the one at hand, is no square, from -1048576 to 1048576, and like 0 or 1 modulo 4." */
    private static void discriminants() {
        dueTaken(-1048576, -1048575, -1048572, -1048571, -8, -7, -4, -3, 5, 8, 12, 13, 17, 20,
                1048565, 1048568, 1048569, 1048572, 1048573);
        dueNotTaken(-1048580, -1048579, -1048578, -1048577, 1048576, 1048577, 1048580, 1048581, 1050629, LEAST, LEAST + 1, LEAST + 4,
                GREATEST, GREATEST - 2, GREATEST - 3);
        dueNotTaken(-1048574, -1048573, -6, -5, -2, -1, 2, 3, 6, 7, 10, 11, 1048574, 1048575, 1048570, 1048571);
        TreeSet<Integer> squares = new TreeSet<>();
        for (int root = 0; root <= 1024; root++) {
            squares.add(root * root);
        }
        int[] corners = {-1048576, -1046529, -4096, 0, 4096, 1046529, 1048576};
        for (int corner : corners) {
            for (int d = corner - 60; d <= corner + 60; d++) {
                int rest = Math.floorMod(d, 4);
                dueTake(d, d >= -1048576 && d <= 1048576 && rest <= 1 && !squares.contains(d));
            }
        }
        for (int square : squares) {
            dueTake(square, false);
            dueTake(-square, square != 0 && (square % 4 == 0));
        }
    }

    private static void dueTaken(int... row) {
        for (int d : row) {
            dueTake(d, true);
        }
    }

    private static void dueNotTaken(int... row) {
        for (int d : row) {
            dueTake(d, false);
            for (Supplier<FormComposer> make : states()) {
                refused("take(" + d + ")", make, x -> x.take(d), ARGUMENT);
            }
        }
    }

    private static void dueTake(int d, boolean can) {
        FormComposer x = new FormComposer();
        due("take(" + d + "): thrown", thrown(x, y -> y.take(d)), can ? "nothing" : ARGUMENT);
        due("take(" + d + "): D", x.count(0), can ? d : -4);
    }

    /** Terms: "coefficients from -1073741824 to 1073741824"; rows of D, a form, its class's name and number of reduced forms. */
    private static void widestCoefficients() {
        int[][] rows = {
            {-704815, WIDE, -697340599, 113221796, 140, 15, 1259, 1},
            {-876527, 262698113, -1062205161, WIDE, 163, -139, 1374, 1},
            {-983599, WIDE, 1065439031, 264300110, 200, 199, 1279, 1},
            {-726175, 229272734, 992330033, WIDE, 400, 335, 524, 1},
            {-725048, 633020166, WIDE, 455325741, 323, -164, 582, 1},
            {-593312, 283008647, -WIDE, 1018450776, 199, 92, 756, 1},
            {37120, WIDE, -406016656, 38382021, -51, 116, 116, 4},
            {551204, 113667851, -698712890, WIDE, -647, 580, 83, 152},
            {901153, WIDE, 782649233, 142618041, -869, 869, 42, 160},
            {1004033, 45169688, -440456959, WIDE, -958, 951, 26, 1482},
            {739481, -WIDE, 166338747, -6442093, -818, 815, 23, 834},
            {544521, -84143749, -601161085, -WIDE, -123, 615, 338, 4},
            {579617, -WIDE, -779424657, -141445267, -572, 447, 166, 242},
            {261065, -31311659, 366718627, -WIDE, -449, 435, 40, 202},
            {5736, 597466937, WIDE, 482420630, -33, 18, 41, 28},
            {193756, -594495745, WIDE, -484831689, -373, 360, 43, 150},
            {111784, 301332381, -WIDE, 956519758, -195, 58, 139, 26},
            {224896, -349514385, -WIDE, -824659552, -433, 420, 28, 28}};
        for (int[] row : rows) {
            duePut(row);
        }
    }

    private static void duePut(int... row) {
        FormComposer x = of(row[0]);
        String call = "D " + row[0] + ", put(0, " + row[1] + ", " + row[2] + ", " + row[3] + ")";
        fine(call, x, y -> y.put(0, row[1], row[2], row[3]));
        due(call + ": name", name(x, 0), text(row[4], row[5], row[6]));
        due(call + ": count(3)", x.count(3), row[7]);
    }

    /** All is right in these rows of D and a form, but that one coefficient is one beyond the widest. */
    private static void beyondWidestCoefficients() {
        int[][] rows = {
            {-1014771, WIDE + 1, -891659077, 185113379}, {-1034271, WIDE + 1, 214507127, 10713308}, {-262144, WIDE + 1, 65534, 1},
            {-710696, 123945459, 729617498, WIDE + 1}, {-837836, 221520844, -975410058, WIDE + 1}, {-262144, 1, 65534, WIDE + 1},
            {-338495, 426420080, WIDE + 1, 675930591}, {-337451, 832929553, -WIDE - 1, 346044123},
            {895184, WIDE + 1, 294872472, 20244572}, {772444, WIDE + 1, -136972388, 4368237},
            {862549, 65496787, 530383407, WIDE + 1}, {66756, 208021427, 945222316, WIDE + 1},
            {1031949, -WIDE - 1, -955623393, -212624685}, {949025, -WIDE - 1, 510326825, -60636892}, {131069, -WIDE - 1, 65537, -1},
            {535921, -24639714, 325310261, -WIDE - 1}, {587669, -245847199, 1027572713, -WIDE - 1}, {131069, -1, 65537, -WIDE - 1},
            {892321, 586729257, WIDE + 1, 491249368}, {718249, -486437582, WIDE + 1, -592533117},
            {233217, 800786141, -WIDE - 1, 359934272}, {62977, -1048949712, -WIDE - 1, -274779976}};
        for (int[] row : rows) {
            dueNoPut(row[0], row[1], row[2], row[3]);
        }
        for (int far : new int[] {LEAST, LEAST + 1, GREATEST, WIDE + 1, -WIDE - 1, WIDE + 2, -WIDE - 2}) {
            for (int d : new int[] {-4, 5, -1048576, 1048573}) {
                dueNoPut(d, far, 1, 1);
                dueNoPut(d, 1, far, 1);
                dueNoPut(d, 1, 1, far);
                dueNoPut(d, far, far, far);
            }
        }
    }

    private static void dueNoPut(int d, int a, int b, int c) {
        for (int r : new int[] {0, 7}) {
            refused("D " + d + ", put(" + r + ", " + a + ", " + b + ", " + c + ")", () -> of(d), x -> x.put(r, a, b, c), ARGUMENT);
        }
    }

    /** Terms: "that have only 1 in common": two of the three may have more. */
    private static void commonFactors() {
        int[][] rows = {{-12, 2, 2, 2}, {-12, 2, -2, 2}, {-16, 2, 0, 2}, {-16, 2, 4, 4}, {-92, 2, 2, 12}, {-207, 6, 3, 9}, {-27, 3, 3, 3},
            {-1048572, 2, 2, 131072}, {-1048576, 512, 0, 512}, {-1048576, 1024, 1024, 512}, {45, 3, 3, -3}, {45, -3, -3, 3},
            {20, 2, 2, -2}, {48, 2, 0, -6}, {48, -2, 0, 6}, {32, -2, 4, 2}, {500000, 500, 500, -125},
            {-194624, 535505448, 579917344, 157003130}, {305204, 361291658, 722149874, 360858346},
            {-770796, 853295565, 957257652, 268471515}, {306801, 684597174, -1031633145, 388647144},
            {-406800, 895661395, 1046265450, 305548335}, {788100, 905675385, -924806670, 236085520}};
        for (int[] row : rows) {
            dueNoPut(row[0], row[1], row[2], row[3]);
        }
        duePut(-260, 6, 10, 15, 6, -2, 11, 1);
        duePut(-260, 15, 10, 6, 6, 2, 11, 1);
        duePut(460, 6, 10, -15, -15, 10, 6, 10);
        duePut(-104, 10, 24, 17, 3, 2, 9, 1);
        duePut(-4, 1, 0, 1, 1, 0, 1, 1);
    }

    /** Terms: "the discriminant D". */
    private static void otherDiscriminants() {
        int[][] rows = {{-4, 0, 0, 0}, {-4, 1, 0, 0}, {-4, 0, 1, 0}, {-4, 0, 0, 1}, {-4, 1, 1, 1}, {-4, 1, 0, 2}, {-4, 1, 0, -1},
            {-4, 1, 0, 3}, {5, 1, 1, 1}, {5, 1, 1, -2}, {5, 1, 0, -1}, {5, 0, 1, -1}, {5, 1, 1, 0}, {5, 1, 2, -1}, {-23, 1, 1, 5},
            {-23, 1, 1, 7}, {-1048576, 1, 0, 262145}, {-1048576, 1, 0, 262143}, {-1048576, 1, 0, -262144}, {1048573, 1, 1, -262142},
            {1048573, 1, 1, 262143}};
        for (int[] row : rows) {
            dueNoPut(row[0], row[1], row[2], row[3]);
        }
        // The discriminants of these are D only if they are worked out modulo 2 to the 32nd.
        dueNoPut(-4, 3, 0, 715827883);
        dueNoPut(-8, 1, 65536, 2);
        dueNoPut(8, 1, 65536, -2);
        dueNoPut(-23, 426420001, -426849211, 907651372);
        dueNoPut(5, 795913127, -1008687085, -1053894657);
        dueNoPut(-1048575, 720922583, -798728879, 982625624);
        dueNoPut(1048573, 884302097, 83458381, 383255451);
    }

    /** Terms: "and a above 0 if D is below 0"; if D is above 0, a may be below 0. */
    private static void signOfA() {
        int[][] rows = {{-4, -1, 0, -1}, {-3, -1, 1, -1}, {-3, -1, -1, -1}, {-23, -2, 1, -3}, {-23, -2, -1, -3}, {-23, -6, 1, -1},
            {-1048576, -1, 0, -262144}, {-262140, -WIDE, 65534, -1}, {-262140, -1, 65534, -WIDE}};
        for (int[] row : rows) {
            dueNoPut(row[0], row[1], row[2], row[3]);
        }
        duePut(-262140, WIDE, 65534, 1, 1, 0, 65535, 1);
        duePut(-262140, 1, 65534, WIDE, 1, 0, 65535, 1);
        duePut(5, -1, 1, 1, -1, 1, 1, 2);
        duePut(12, -1, 4, -1, -1, 2, 2, 2);
        duePut(1048572, -1, 1022, 1022, -1, 1022, 1022, 2);
    }

    /** Terms: "REDUCED, D below 0: |b| <= a <= c, and b is not below 0 if |b| = a or a = c." */
    private static void reducedBelow() {
        int[][] rows = {
            {-20, 2, 2, 3, 2, 2, 3, 1}, {-20, 2, -2, 3, 2, 2, 3, 1}, {-20, 3, 2, 2, 2, 2, 3, 1}, {-20, 3, 4, 3, 2, 2, 3, 1},
            {-3, 1, 1, 1, 1, 1, 1, 1}, {-3, 1, -1, 1, 1, 1, 1, 1}, {-3, 1, 3, 3, 1, 1, 1, 1}, {-4, 1, 2, 2, 1, 0, 1, 1},
            {-4, 2, -2, 1, 1, 0, 1, 1}, {-32, 3, 2, 3, 3, 2, 3, 1}, {-32, 3, -2, 3, 3, 2, 3, 1}, {-32, 8, 0, 1, 1, 0, 8, 1},
            {-84, 5, 4, 5, 5, 4, 5, 1}, {-84, 5, -4, 5, 5, 4, 5, 1}, {-84, 5, 6, 6, 5, 4, 5, 1}, {-23, 2, 1, 3, 2, 1, 3, 1},
            {-23, 2, -1, 3, 2, -1, 3, 1}, {-23, 3, 1, 2, 2, -1, 3, 1}, {-23, 3, -1, 2, 2, 1, 3, 1}, {-23, 2, 3, 4, 2, -1, 3, 1},
            {-23, 2, -3, 4, 2, 1, 3, 1}, {-56, 3, -2, 5, 3, -2, 5, 1}, {-56, 3, 4, 6, 3, -2, 5, 1}, {-56, 3, -4, 6, 3, 2, 5, 1},
            {-1048576, 4, -4, 65537, 4, 4, 65537, 1}, {-1048575, 451, -451, 694, 451, 451, 694, 1},
            {-1048575, 512, -1, 512, 512, 1, 512, 1}, {-1048575, 532, -289, 532, 532, 289, 532, 1},
            {-1048564, 22, -22, 11921, 22, 22, 11921, 1}};
        for (int[] row : rows) {
            duePut(row);
        }
    }

    /**
     * Terms: "D above 0: 0 < b < R and R - b < 2 |a| < R + b. The NAME of a class is its reduced form with the least a, of
     * these that with the least b." Of D 17 and 1048204, ONE has two and four reduced forms with its least a.
     */
    private static void reducedAbove() {
        int[][] rows = {
            {12, 1, 4, 1, -2, 2, 1, 2}, {12, 1, 0, -3, -2, 2, 1, 2}, {12, 1, 2, -2, -2, 2, 1, 2}, {12, -1, 2, 2, -1, 2, 2, 2},
            {12, -1, 0, 3, -1, 2, 2, 2}, {12, -1, -2, 2, -1, 2, 2, 2}, {12, -2, 2, 1, -2, 2, 1, 2}, {17, 1, 1, -4, -2, 1, 2, 6},
            {17, 4, 1, -1, -2, 1, 2, 6}, {17, 2, 1, -2, -2, 1, 2, 6}, {17, -2, 1, 2, -2, 1, 2, 6}, {17, -2, 3, 1, -2, 1, 2, 6},
            {17, -1, 5, -2, -2, 1, 2, 6}, {17, 2, 5, 1, -2, 1, 2, 6}, {17, -2, -1, 2, -2, 1, 2, 6}, {5, 1, 3, 1, -1, 1, 1, 2},
            {5, -1, 3, -1, -1, 1, 1, 2}, {8, 1, 0, -2, -1, 2, 1, 2}, {8, 1, 4, 2, -1, 2, 1, 2},
            {13, 1, 1, -3, -1, 3, 1, 2}, {13, -1, 1, 3, -1, 3, 1, 2}, {13, -3, 1, 1, -1, 3, 1, 2}, {20, 1, 2, -4, -1, 4, 1, 2},
            {20, -4, 2, 1, -1, 4, 1, 2}, {24, 1, 2, -5, -2, 4, 1, 2}, {24, -1, 2, 5, -1, 4, 2, 2}, {24, 5, 2, -1, -1, 4, 2, 2},
            {1048573, 1, 1021, -1533, -979, 971, 27, 1106}, {1048573, -1, 1021, 1533, -979, 971, 27, 1106},
            {1048572, 2043, 1020, -1, -1, 1022, 1022, 2},
            {1048572, 1, 1022, -1022, -1022, 1022, 1, 2}, {1048572, -1022, 1022, 1, -1022, 1022, 1, 2},
            {1048572, 1, 1024, 1, -1022, 1022, 1, 2}, {1048572, 1022, 1022, -1, -1, 1022, 1022, 2},
            {1048573, 511, 1023, -1, -979, 971, 27, 1106}, {1048573, 1, 1025, 513, -979, 971, 27, 1106},
            {1046533, 1, 1023, -1, -1, 1023, 1, 2}, {1046533, 1, 1025, 1023, -1, 1023, 1, 2},
            {1048204, -930, 1022, 1, -930, 838, 93, 946}, {1048204, 1, 0, -262051, -930, 838, 93, 946}};
        for (int[] row : rows) {
            duePut(row);
        }
    }

    /** Terms: "of an exponent below 0 those of the inverse; of 0 ONE." */
    private static void exponentsOfPowers() {
        long[] exponents = {0, 1, -1, 2, -2, 3, -3, GREATEST, LEAST, 1L << 31, 1L << 32, -(1L << 32), (1L << 32) + 1,
            1L << 62, -(1L << 62), Long.MAX_VALUE, Long.MAX_VALUE - 1, Long.MIN_VALUE, Long.MIN_VALUE + 1};
        for (int[] row : ORDERS) {
            FormComposer x = filled(row[0], row[1], row[2], row[3]);
            String of = "D " + row[0] + ", power(2, 1, ";
            for (long k : exponents) {
                fine(of + k + ")", x, y -> y.power(2, 1, k));
                due(of + k + "): its exponent", (long) x.exponent(1, 2), Math.floorMod(k, (long) row[4]));
                x.power(3, 1, 0);
                due(of + "0)", name(x, 3), name(of(row[0]), 0));
            }
            x.invert(4, 1);
            x.power(5, 1, -5);
            x.power(6, 4, 5);
            due(of + "-5): that of the inverse", name(x, 5), name(x, 6));
            due(of + "..): register 1 stays", name(x, 1), name(filled(row[0], row[1], row[2], row[3]), 1));
        }
    }

    /** Terms: "At first D is -4, and all registers are ONE."; 1: "D is -4." */
    private static void newObject() {
        FormComposer x = new FormComposer();
        due("new: state", state(x), "-4 -1 0 1 " + "(1, 0, 1)".repeat(8));
        due("another object", above().count(0), 136);
        due("new: state beside another object", state(x), "-4 -1 0 1 " + "(1, 0, 1)".repeat(8));
    }

    /** Terms: "REGISTERS 0 .. 7 hold classes, told by their names." */
    private static void eightRegisters() {
        for (int r = 0; r < 8; r++) {
            FormComposer x = below();
            FormComposer plain = below();
            x.put(r, 4, -1, 3);
            for (int s = 0; s < 8; s++) {
                due("put to " + r + ": register " + s, name(x, s), s == r ? "(3, 1, 4)" : name(plain, s));
            }
        }
    }

    /** 2: "D becomes this one, and all registers ONE. (Also when it is D already.)" */
    private static void takeAgain() {
        int[][] ones = {{-4, 1, 0, 1}, {-3, 1, 1, 1}, {-47, 1, 1, 12}, {-1048576, 1, 0, 262144}, {-1048575, 1, 1, 262144}, {5, -1, 1, 1},
            {8, -1, 2, 1}, {12, -2, 2, 1}, {17, -2, 1, 2}, {136, -9, 8, 2}, {1048572, -1022, 1022, 1}, {1048573, -979, 971, 27}};
        for (int[] one : ones) {
            for (Supplier<FormComposer> make : states()) {
                FormComposer x = make.get();
                x.take(one[0]);
                String all = text(one[1], one[2], one[3]).repeat(8);
                due("take(" + one[0] + "): registers", state(x).endsWith(" " + all), true);
                String before = state(x);
                x.take(one[0]);
                due("take(" + one[0] + ") again: state", state(x), before);
            }
        }
        FormComposer x = below();
        x.take(-47);
        due("take of D already", state(x), state(of(-47)));
        FormComposer y = above();
        y.take(136);
        due("take of D already", state(y), state(of(136)));
    }

    /** 3: "IndexOutOfBoundsException: there is no such register. IllegalArgumentException: the form can't be taken." */
    private static void putRegisters() {
        dueRegister("put(r, ONE)", (x, r) -> x.put(r, 1, x.count(0) & 1, ((x.count(0) & 1) - x.count(0)) / 4));
        for (Supplier<FormComposer> make : states()) {
            for (int r : NO_REGISTERS) {
                // The document names the register first; with both wrong, its exception comes.
                refused("put(" + r + ", 0, 0, 0)", make, x -> x.put(r, 0, 0, 0), INDEX);
                refused("put(" + r + ", LEAST ..)", make, x -> x.put(r, LEAST, LEAST, LEAST), INDEX);
            }
            for (int r = 0; r < 8; r++) {
                int register = r;
                refused("put(" + r + ", 0, 0, 0)", make, x -> x.put(register, 0, 0, 0), ARGUMENT);
                refused("put(" + r + ", GREATEST ..)", make, x -> x.put(register, GREATEST, GREATEST, GREATEST), ARGUMENT);
            }
        }
    }

    /** 4: "(It may be one of them.)"; with the powers in their registers, the product of 1 and 2 is 3, and so on. */
    private static void composeInPlace() {
        for (Supplier<FormComposer> make : states()) {
            for (int r = 1; r < 4; r++) {
                for (int s = 1; s < 4; s++) {
                    FormComposer plain = make.get();
                    String want = name(plain, r + s);
                    for (int to = 0; to < 8; to++) {
                        FormComposer x = make.get();
                        x.compose(to, r, s);
                        String call = "compose(" + to + ", " + r + ", " + s + ")";
                        for (int other = 0; other < 8; other++) {
                            due(call + ": register " + other, name(x, other), other == to ? want : name(plain, other));
                        }
                    }
                }
            }
        }
    }

    /** 5 and 6 into the register that they are made from. */
    private static void invertAndPowerInPlace() {
        for (int r = 0; r < 8; r++) {
            FormComposer x = below();
            x.power(r, r, 4);
            // The order is 5, so the fourth power is the inverse.
            FormComposer y = below();
            y.invert(r, r);
            due("power(" + r + ", " + r + ", 4)", state(x), state(y));
            due("invert(" + r + ", " + r + ")", name(y, r), name(below(), r == 0 ? 4 : 5 - r % 5));
            x.invert(r, r);
            due("invert(" + r + ", " + r + ") of the inverse", state(x), state(below()));
        }
    }

    /** 4: "IndexOutOfBoundsException: there is none such (also below)." */
    private static void composeRegisters() {
        dueRegister("compose(r, 1, 2)", (x, r) -> x.compose(r, 1, 2));
        dueRegister("compose(1, r, 2)", (x, r) -> x.compose(1, r, 2));
        dueRegister("compose(1, 2, r)", (x, r) -> x.compose(1, 2, r));
        dueRegister("compose(r, r, r)", (x, r) -> x.compose(r, r, r));
    }

    /** 5: the same exception. */
    private static void invertRegisters() {
        dueRegister("invert(r, 1)", (x, r) -> x.invert(r, 1));
        dueRegister("invert(1, r)", (x, r) -> x.invert(1, r));
        dueRegister("invert(r, r)", (x, r) -> x.invert(r, r));
    }

    /** 6: the same exception, whatever the exponent. */
    private static void powerRegisters() {
        for (long k : new long[] {0, 1, -1, 2, Long.MIN_VALUE, Long.MAX_VALUE}) {
            dueRegister("power(r, 1, " + k + ")", (x, r) -> x.power(r, 1, k));
            dueRegister("power(1, r, " + k + ")", (x, r) -> x.power(1, r, k));
            dueRegister("power(r, r, " + k + ")", (x, r) -> x.power(r, r, k));
        }
    }

    /** 8: the same exception. */
    private static void sameRegisters() {
        dueRegister("same(r, 1)", (x, r) -> x.same(r, 1));
        dueRegister("same(1, r)", (x, r) -> x.same(1, r));
        dueRegister("same(r, r)", (x, r) -> x.same(r, r));
    }

    /** 9: the same exception. */
    private static void orderRegisters() {
        dueRegister("order(r)", (x, r) -> x.order(r));
    }

    /** 10: the same exception, also where the other register is ONE. */
    private static void exponentRegisters() {
        dueRegister("exponent(r, 1)", (x, r) -> x.exponent(r, 1));
        dueRegister("exponent(1, r)", (x, r) -> x.exponent(1, r));
        dueRegister("exponent(5, r)", (x, r) -> x.exponent(5, r));
        dueRegister("exponent(r, 5)", (x, r) -> x.exponent(r, 5));
        dueRegister("exponent(r, r)", (x, r) -> x.exponent(r, r));
    }

    /** 7: "Coefficient what (0 a, 1 b, 2 c)"; "IndexOutOfBoundsException: also another what." */
    private static void otherCoefficients() {
        for (int what = 0; what < 3; what++) {
            int asked = what;
            dueRegister("form(r, " + what + ")", (x, r) -> x.form(r, asked));
            due("form(2, " + what + ")", below().form(2, what), new int[] {3, -1, 4}[what]);
            due("form(2, " + what + ")", above().form(2, what), new int[] {-2, 8, 9}[what]);
        }
        for (int what : new int[] {-1, 3, 4, 7, 8, LEAST, GREATEST}) {
            for (Supplier<FormComposer> make : states()) {
                refused("form(0, " + what + ")", make, x -> x.form(0, what), INDEX);
                refused("form(7, " + what + ")", make, x -> x.form(7, what), INDEX);
                refused("form(8, " + what + ")", make, x -> x.form(8, what), INDEX);
            }
        }
    }

    /** 9: the order is above 0, that of ONE is 1. 8: registers are the same just if their powers are. */
    private static void ordersAndSame() {
        for (int[] row : ORDERS) {
            FormComposer x = filled(row[0], row[1], row[2], row[3]);
            due("D " + row[0] + ", order(1)", x.order(1), row[4]);
            x.power(3, 1, 0);
            due("D " + row[0] + ", order of ONE", x.order(3), 1);
            x.invert(4, 1);
            due("D " + row[0] + ", order of the inverse", x.order(4), row[4]);
            due("D " + row[0] + ", same as the inverse", x.same(1, 4), row[4] <= 2);
            due("D " + row[0] + ", same as ONE", x.same(3, 1), row[4] == 1);
            due("D " + row[0] + ", same as itself", x.same(1, 1), true);
        }
    }

    /** 10: "The least exponent from 0 on". */
    private static void leastExponents() {
        for (int[] row : ORDERS) {
            FormComposer x = filled(row[0], row[1], row[2], row[3]);
            int order = row[4];
            x.power(3, 1, 0);
            x.invert(4, 1);
            due("D " + row[0] + ", exponent to ONE", x.exponent(1, 3), 0);
            due("D " + row[0] + ", exponent of ONE to ONE", x.exponent(3, 3), 0);
            due("D " + row[0] + ", exponent to itself", x.exponent(1, 1), order == 1 ? 0 : 1);
            due("D " + row[0] + ", exponent to the inverse", x.exponent(1, 4), order - 1);
            due("D " + row[0] + ", exponent of the inverse", x.exponent(4, 1), order - 1);
            due("D " + row[0] + ", exponent of ONE to another", x.exponent(3, 1), order == 1 ? 0 : -1);
        }
    }

    /** 10: "-1 if there is none." */
    private static void noExponent() {
        int[][] rows = {{-84, 3, 0, 7, 2, 2, 11}, {-84, 2, 2, 11, 5, 4, 5}, {60, -1, 0, 15, 3, 0, -5}, {12, 1, 0, -3, -1, 0, 3},
            {-23, 1, 1, 6, 2, 1, 3}, {-1046471, 3, 1, 87206, 2, 1, 130809}, {-1046471, 7, 1, 37374, 3, 1, 87206}};
        for (int[] row : rows) {
            FormComposer x = of(row[0]);
            x.put(1, row[1], row[2], row[3]);
            x.put(2, row[4], row[5], row[6]);
            String before = state(x);
            due("D " + row[0] + ", exponent with none such", x.exponent(1, 2), -1);
            due("D " + row[0] + ", state afterwards", state(x), before);
        }
        FormComposer x = above();
        due("D 136, exponent(2, 1)", x.exponent(2, 1), -1);
        due("D 136, exponent(2, 3)", x.exponent(2, 3), -1);
        due("D 136, exponent(2, 4)", x.exponent(2, 4), 0);
        due("D 136, exponent(4, 2)", x.exponent(4, 2), -1);
    }

    /** 11: "the whole part of R (-1 if D is below 0)". */
    private static void wholeRoots() {
        int[][] rows = {{-1048576, -1}, {-1048575, -1}, {-4, -1}, {-3, -1}, {5, 2}, {8, 2}, {12, 3}, {13, 3}, {17, 4}, {20, 4}, {21, 4},
            {24, 4}, {28, 5}, {1046525, 1022}, {1046528, 1022}, {1046532, 1023}, {1046533, 1023}, {1048572, 1023}, {1048573, 1023}};
        for (int[] row : rows) {
            due("D " + row[0] + ", count(0)", of(row[0]).count(0), row[0]);
            due("D " + row[0] + ", count(1)", of(row[0]).count(1), row[1]);
        }
    }

    /** 11: "how many odd primes go into D". */
    private static void numberOfPrimes() {
        FormComposer again = new FormComposer();
        for (int[] row : PRIMES) {
            due("D " + row[0] + ", count(2)", of(row[0]).count(2), row.length - 1);
            again.take(row[0]);
            due("D " + row[0] + " behind others: count(2)", again.count(2), row.length - 1);
        }
    }

    /** 12: "The k-th of these primes, from 0 on." */
    private static void primesFromZero() {
        for (int[] row : PRIMES) {
            FormComposer x = of(row[0]);
            for (int k = 0; k < row.length - 1; k++) {
                due("D " + row[0] + ", prime(" + k + ")", x.prime(k), row[k + 1]);
                due("D " + row[0] + ", character of ONE, " + k, x.character(0, k), 1);
            }
        }
    }

    /** 12: "IndexOutOfBoundsException: there is none such." */
    private static void noPrimes() {
        for (int[] row : PRIMES) {
            int d = row[0];
            for (int k : new int[] {-1, row.length - 1, row.length, 6, 7, LEAST, GREATEST}) {
                refused("D " + d + ", prime(" + k + ")", () -> of(d), x -> x.prime(k), INDEX);
                refused("D " + d + ", character(7, " + k + ")", () -> of(d), x -> x.character(7, k), INDEX);
            }
        }
    }

    /** 11: "-1 for another what." */
    private static void otherCounts() {
        for (Supplier<FormComposer> make : states()) {
            FormComposer x = make.get();
            String before = state(x);
            for (int what : new int[] {-1, 4, 5, 8, LEAST, GREATEST}) {
                due("count(" + what + ")", x.count(what), -1);
            }
            due("count of another what: state afterwards", state(x), before);
        }
    }

    /** 13: "IndexOutOfBoundsException: there is no such register or prime." */
    private static void characters() {
        int[][] rows = {{-84, 3, 0, 7, 1, -1}, {-84, 2, 2, 11, -1, 1}, {-84, 5, 4, 5, -1, -1}, {60, -1, 0, 15, -1, 1},
            {60, 3, 0, -5, 1, -1}, {60, -3, 0, 5, -1, -1}, {1048573, 7, 1023, -73, 1}, {1048573, -1, 1, 262143, 1},
            {-1048575, 3, 3, 87382, 1, -1, 1, -1, -1},
            {1048556, -1, 0, 262139, -1}, {1021020, -1, 0, 255255, -1, 1, -1, -1, 1, 1}, {-1021020, 3, 0, 85085, -1, -1, -1, 1, 1, -1}};
        for (int[] row : rows) {
            FormComposer x = of(row[0]);
            x.put(7, row[1], row[2], row[3]);
            for (int k = 0; k < row.length - 4; k++) {
                due("D " + row[0] + text(row[1], row[2], row[3]) + ", character " + k, x.character(7, k), row[k + 4]);
            }
        }
        for (int r : NO_REGISTERS) {
            for (int k : new int[] {0, 1, -1, LEAST, GREATEST}) {
                refused("character(" + r + ", " + k + ")", BoundaryTest::below, x -> x.character(r, k), INDEX);
                refused("character(" + r + ", " + k + ")", BoundaryTest::above, x -> x.character(r, k), INDEX);
                refused("character(" + r + ", " + k + ")", FormComposer::new, x -> x.character(r, k), INDEX);
            }
        }
        for (int r = 0; r < 8; r++) {
            int register = r;
            for (int k : new int[] {-1, 1, LEAST, GREATEST}) {
                refused("character(" + r + ", " + k + ")", BoundaryTest::below, x -> x.character(register, k), INDEX);
                refused("character(" + r + ", " + k + ")", BoundaryTest::above, x -> x.character(register, k), INDEX);
            }
            refused("character(" + r + ", 0)", FormComposer::new, x -> x.character(register, 0), INDEX);
        }
    }

    /** What it is: "An object is used for at most 512 calls after it has been made". */
    private static void lastCall() {
        FormComposer x = new FormComposer();
        x.take(-1046471);
        x.put(1, 2, 1, 130809);
        x.put(2, 2, 1, 130809);
        for (int call = 4; call < 512; call++) {
            x.compose(2, 2, 1);
        }
        due("the 512th call: exponent(1, 2)", x.exponent(1, 2), 509);
        FormComposer y = new FormComposer();
        for (int call = 1; call < 512; call++) {
            due("refused again and again", thrown(y, z -> z.take(1)), ARGUMENT);
        }
        due("the 512th call: count(0)", y.count(0), -4);
    }

    public static void main(String[] args) {
        discriminants();
        widestCoefficients();
        beyondWidestCoefficients();
        commonFactors();
        otherDiscriminants();
        signOfA();
        reducedBelow();
        reducedAbove();
        exponentsOfPowers();
        newObject();
        eightRegisters();
        takeAgain();
        putRegisters();
        composeInPlace();
        invertAndPowerInPlace();
        composeRegisters();
        invertRegisters();
        powerRegisters();
        sameRegisters();
        orderRegisters();
        exponentRegisters();
        otherCoefficients();
        ordersAndSame();
        leastExponents();
        noExponent();
        wholeRoots();
        numberOfPrimes();
        primesFromZero();
        noPrimes();
        otherCounts();
        characters();
        lastCall();
        System.out.println(wrong == 0 ? "all answers are as due" : wrong + " answers are not as due");
        if (wrong != 0) {
            System.exit(1);
        }
    }
}
