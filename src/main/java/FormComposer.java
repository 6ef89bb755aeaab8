/** Classes of forms in two unknowns of one discriminant, held in eight registers by their names. */
public final class FormComposer {
    private static final int REGISTERS = 8;
    private static final int FIRST_DISCRIMINANT = -4;
    private static final int WIDEST_DISCRIMINANT = 1048576;
    private static final int WIDEST_ROOT = 1024;
    private static final int WIDEST_COEFFICIENT = 1073741824;
    /** 3 * 5 * 7 * 11 * 13 * 17 * 19 is above every discriminant, so no more than six odd primes go into one. */
    private static final int MOST_PRIMES = 6;
    /** Far above every chain of reductions, every cycle and every order: a loop that counts to it has another end. */
    private static final int MANY_ROUNDS = 1000000;
    private static final int BITS = 64;

    private final Group group;
    private final OddPrimes primes;
    private final Form[] registers;
    /** Results are made here first, since the register that takes them may be one that they are made from. */
    private final Form hand;

    public FormComposer() {
        group = new Group();
        primes = new OddPrimes();
        hand = new Form();
        registers = new Form[REGISTERS];
        for (int r = 0; r < REGISTERS; r++) {
            registers[r] = new Form();
        }
        begin(FIRST_DISCRIMINANT);
    }

    public void take(int d) throws IllegalArgumentException {
        if (!isDiscriminant(d)) {
            throw new IllegalArgumentException("no such discriminant");
        }
        begin(d);
    }

    public void put(int r, int a, int b, int c) throws IndexOutOfBoundsException, IllegalArgumentException {
        Form target = held(r);
        if (!group.canTake(a, b, c)) {
            throw new IllegalArgumentException("the form can't be taken");
        }
        hand.become(a, b, c);
        group.reduce(hand);
        storeName(target);
    }

    public void compose(int to, int r, int s) throws IndexOutOfBoundsException {
        Form target = held(to);
        Form left = held(r);
        Form right = held(s);
        hand.copy(left);
        group.multiply(hand, right);
        storeName(target);
    }

    public void invert(int to, int r) throws IndexOutOfBoundsException {
        Form target = held(to);
        hand.copy(held(r));
        group.turn(hand);
        storeName(target);
    }

    public void power(int to, int r, long k) throws IndexOutOfBoundsException {
        Form target = held(to);
        hand.copy(held(r));
        group.raise(hand, k);
        storeName(target);
    }

    public int form(int r, int what) throws IndexOutOfBoundsException {
        Form name = held(r);
        switch (what) {
            case 0:
                return (int) name.a;
            case 1:
                return (int) name.b;
            case 2:
                return (int) name.c;
            default:
                throw new IndexOutOfBoundsException("no such coefficient");
        }
    }

    public boolean same(int r, int s) throws IndexOutOfBoundsException {
        Form left = held(r);
        return left.matches(held(s));
    }

    public int order(int r) throws IndexOutOfBoundsException {
        return group.orderOf(held(r));
    }

    public int exponent(int r, int s) throws IndexOutOfBoundsException {
        Form base = held(r);
        return group.exponentOf(base, held(s));
    }

    public int count(int what) {
        switch (what) {
            case 0:
                return group.discriminant;
            case 1:
                return group.root;
            case 2:
                return primes.size;
            case 3:
                hand.copy(registers[0]);
                return group.turnIntoName(hand);
            default:
                return -1;
        }
    }

    public int prime(int k) throws IndexOutOfBoundsException {
        if (!primes.has(k)) {
            throw new IndexOutOfBoundsException("no such prime");
        }
        return primes.at(k);
    }

    public int character(int r, int k) throws IndexOutOfBoundsException {
        Form name = held(r);
        if (!primes.has(k)) {
            throw new IndexOutOfBoundsException("no such prime");
        }
        int p = primes.at(k);
        // p goes into D, so if it went into both a and c it would go into b too, and the form could not be taken.
        long number = remainder(name.a, p) != 0 ? name.a : name.c;
        return isLikeSquare(number, p) ? 1 : -1;
    }

    private void begin(int d) {
        group.settle(d);
        primes.find(d);
        for (int r = 0; r < REGISTERS; r++) {
            registers[r].copy(group.one);
        }
    }

    private Form held(int r) {
        if (r < 0 || r >= REGISTERS) {
            throw new IndexOutOfBoundsException("no such register");
        }
        return registers[r];
    }

    private void storeName(Form target) {
        group.turnIntoName(hand);
        target.copy(hand);
    }

    private static boolean isDiscriminant(int d) {
        if (d < -WIDEST_DISCRIMINANT || d > WIDEST_DISCRIMINANT || Math.floorMod(d, 4) > 1) {
            return false;
        }
        int root = wholeRoot(d);
        return root < 0 || root * root != d;
    }

    /** The whole part of d's root; -1 if d is below 0. */
    private static int wholeRoot(int d) {
        if (d < 0) {
            return -1;
        }
        int root = 0;
        while (root < WIDEST_ROOT && (root + 1) * (root + 1) <= d) {
            root++;
        }
        return root;
    }

    /** Euler's test: the power (p - 1) / 2 of a number is 1 modulo an odd prime p just if the number is like a square. */
    private static boolean isLikeSquare(long number, int p) {
        long base = remainder(number, p);
        long result = 1;
        int rest = (p - 1) / 2;
        for (int bit = 0; bit < BITS && rest > 0; bit++) {
            if ((rest & 1) == 1) {
                result = remainder(result * base, p);
            }
            base = remainder(base * base, p);
            rest >>= 1;
        }
        return result == 1;
    }

    /** The remainder from 0 on; 0 for a divisor that is not above 0. */
    private static long remainder(long number, long divisor) {
        return divisor > 0 ? Math.floorMod(number, divisor) : 0;
    }

    /** The quotient towards 0; 0 for the divisor 0. */
    private static long quotient(long number, long divisor) {
        return divisor != 0 ? number / divisor : 0;
    }

    /** The form (a, b, c); the coefficients are long because forms that are not reduced yet have large squares. */
    private static final class Form {
        private long a;
        private long b;
        private long c;

        private void become(long newA, long newB, long newC) {
            a = newA;
            b = newB;
            c = newC;
        }

        private void copy(Form other) {
            become(other.a, other.b, other.c);
        }

        private boolean matches(Form other) {
            return a == other.a && b == other.b && c == other.c;
        }

        private boolean isBefore(Form other) {
            return a < other.a || a == other.a && b < other.b;
        }
    }

    /** Euclid's way: left * p + right * q = common, the greatest that p and q have in common. */
    private static final class Euclid {
        private long common;
        private long left;
        private long right;

        private void solve(long p, long q) {
            long nextCommon = q;
            long nextLeft = 0;
            long nextRight = 1;
            common = p;
            left = 1;
            right = 0;
            for (int i = 0; i < MANY_ROUNDS && nextCommon != 0; i++) {
                long times = quotient(common, nextCommon);
                long lastCommon = common - times * nextCommon;
                long lastLeft = left - times * nextLeft;
                long lastRight = right - times * nextRight;
                common = nextCommon;
                left = nextLeft;
                right = nextRight;
                nextCommon = lastCommon;
                nextLeft = lastLeft;
                nextRight = lastRight;
            }
            if (common < 0) {
                common = -common;
                left = -left;
                right = -right;
            }
        }
    }

    /** The odd primes that go into a discriminant, rising. */
    private static final class OddPrimes {
        private final int[] found = new int[MOST_PRIMES];
        private int size;

        private void find(int d) {
            size = 0;
            int rest = without(2, Math.abs(d));
            for (int p = 3; p <= WIDEST_ROOT && p * p <= rest; p += 2) {
                if (remainder(rest, p) == 0) {
                    append(p);
                    rest = without(p, rest);
                }
            }
            if (rest > 1) {
                append(rest);
            }
        }

        private void append(int p) {
            if (size < MOST_PRIMES) {
                found[size] = p;
                size++;
            }
        }

        private boolean has(int k) {
            return k >= 0 && k < size;
        }

        private int at(int k) {
            return has(k) ? found[k] : 0;
        }

        private static int without(int p, int number) {
            int rest = number;
            for (int i = 0; i < MANY_ROUNDS && remainder(rest, p) == 0; i++) {
                rest = (int) quotient(rest, p);
            }
            return rest;
        }
    }

    /** The classes of one discriminant: how forms are reduced and named, and how classes are multiplied. */
    private static final class Group {
        private final Form one = new Form();
        private final Form walker = new Form();
        private final Form start = new Form();
        private final Form base = new Form();
        private final Euclid euclid = new Euclid();
        private int discriminant;
        private int root;

        private void settle(int d) {
            discriminant = d;
            root = wholeRoot(d);
            becomeFrom(one, 1, d & 1);
            reduce(one);
            turnIntoName(one);
        }

        private boolean canTake(long a, long b, long c) {
            if (!isCoefficient(a) || !isCoefficient(b) || !isCoefficient(c)) {
                return false;
            }
            if (b * b - 4 * a * c != discriminant || discriminant < 0 && a <= 0) {
                return false;
            }
            euclid.solve(a, b);
            euclid.solve(euclid.common, c);
            return euclid.common == 1;
        }

        private static boolean isCoefficient(long number) {
            return number >= -WIDEST_COEFFICIENT && number <= WIDEST_COEFFICIENT;
        }

        /** c follows from a, b and D. */
        private void becomeFrom(Form f, long a, long b) {
            f.become(a, b, quotient(b * b - discriminant, 4 * a));
        }

        private void reduce(Form f) {
            if (discriminant < 0) {
                reduceBelow(f);
                return;
            }
            for (int i = 0; i < MANY_ROUNDS && !isReducedAbove(f); i++) {
                step(f);
            }
        }

        private void reduceBelow(Form f) {
            for (int i = 0; i < MANY_ROUNDS; i++) {
                // b comes above -a and up to a.
                becomeFrom(f, f.a, f.a - remainder(f.a - f.b, 2 * f.a));
                if (f.a <= f.c) {
                    break;
                }
                f.become(f.c, -f.b, f.a);
            }
            if (f.a == f.c && f.b < 0) {
                f.b = -f.b;
            }
        }

        /** R is no whole number, so a whole number is below R just if it is not above R's whole part. */
        private boolean isReducedAbove(Form f) {
            long width = 2 * Math.abs(f.a);
            return f.b > 0 && f.b <= root && width + f.b > root && width - f.b <= root;
        }

        /** To the neighbour that begins with c; from a reduced form it goes to the next one of the class's cycle. */
        private void step(Form f) {
            long size = Math.abs(f.c);
            long top = Math.max(size, root);
            becomeFrom(f, f.c, top - remainder(top + f.b, 2 * size));
        }

        /** A reduced form becomes the name of its class; answers how many reduced forms the class has. */
        private int turnIntoName(Form f) {
            if (discriminant < 0) {
                return 1;
            }
            start.copy(f);
            walker.copy(f);
            step(walker);
            int size = 1;
            while (size < MANY_ROUNDS && !walker.matches(start)) {
                if (walker.isBefore(f)) {
                    f.copy(walker);
                }
                step(walker);
                size++;
            }
            return size;
        }

        /**
         * f becomes a reduced form of the product of both. Where a and a' have something in common with
         * (b + b') / 2, it is taken out of both, which leads to the same class as forms without it would.
         */
        private void multiply(Form f, Form g) {
            long middle = (f.b + g.b) / 2;
            euclid.solve(f.a, g.a);
            long left = euclid.left;
            long right = euclid.right;
            euclid.solve(euclid.common, middle);
            long common = euclid.common;
            long sum = euclid.left * (left * f.a * g.b + right * g.a * f.b)
                    + euclid.right * ((f.b * g.b + discriminant) / 2);
            long a = quotient(f.a, common) * quotient(g.a, common);
            becomeFrom(f, a, remainder(quotient(sum, common), 2 * Math.abs(a)));
            reduce(f);
        }

        private void turn(Form f) {
            f.b = -f.b;
            reduce(f);
        }

        private void raise(Form f, long k) {
            base.copy(f);
            if (k < 0) {
                turn(base);
            }
            f.copy(one);
            // The least long is its own negative, but its bits without a sign are right; hence >>>.
            long rest = k < 0 ? -k : k;
            for (int bit = 0; bit < BITS && rest != 0; bit++) {
                if ((rest & 1) == 1) {
                    multiply(f, base);
                }
                multiply(base, base);
                rest >>>= 1;
            }
        }

        private int orderOf(Form name) {
            base.copy(name);
            int n = 1;
            while (n < MANY_ROUNDS && !base.matches(one)) {
                multiply(base, name);
                turnIntoName(base);
                n++;
            }
            return n;
        }

        private int exponentOf(Form name, Form goal) {
            if (goal.matches(one)) {
                return 0;
            }
            base.copy(name);
            int n = 1;
            while (n < MANY_ROUNDS && !base.matches(goal)) {
                // Behind ONE the powers come again.
                if (base.matches(one)) {
                    return -1;
                }
                multiply(base, name);
                turnIntoName(base);
                n++;
            }
            return n;
        }
    }
}
