import com.sun.management.ThreadMXBean;
import java.lang.management.ManagementFactory;
import java.lang.reflect.Field;
import java.lang.reflect.Modifier;
import java.util.ArrayList;
import java.util.List;
import java.util.function.ObjIntConsumer;

/** Terms: "All memory is its own, made once." */
public final class MemoryTest {
    /** Calls of one object; each of them would make 16 bytes at the least, if it made an object. */
    private static final int CALLS = 500;
    private static final int LEAST_OBJECT = 16;
    /** D and a form of it: of small and large D on both sides of 0, with long cycles and high orders too. */
    private static final int[][] FORMS = {{-4, 1, 0, 1}, {-47, 2, 1, 6}, {136, 3, 10, -3}, {-1046471, 2, 1, 130809},
        {1001001, 5, 1, -50050}, {1028329, 2, 1, -128541}};

    private static final java.lang.management.ThreadMXBean BEAN = ManagementFactory.getThreadMXBean();

    private static int wrong = 0;

    private static void due(String what, Object got, Object want) {
        if (!got.equals(want)) {
            wrong++;
            System.out.println(what + " is " + got + ", due is " + want);
        }
    }

    private static FormComposer of(int[] form) {
        FormComposer x = new FormComposer();
        x.take(form[0]);
        x.put(0, form[1], form[2], form[3]);
        x.put(1, form[1], form[2], form[3]);
        x.compose(2, 1, 1);
        return x;
    }

    /** What a call keeps must stand in memory that the constructor made. */
    private static void madeOnce(Class<?> kind) {
        for (Field f : kind.getDeclaredFields()) {
            boolean isStatic = Modifier.isStatic(f.getModifiers());
            if (isStatic || !f.getType().isPrimitive()) {
                due(f + ": final", Modifier.isFinal(f.getModifiers()), true);
            }
            if (isStatic) {
                due(f + ": a constant that objects may share", isConstant(f.getType()), true);
            }
        }
        for (Class<?> inner : kind.getDeclaredClasses()) {
            madeOnce(inner);
        }
    }

    private static boolean isConstant(Class<?> type) {
        return type.isPrimitive() || type == String.class || type.isArray() && type.getComponentType().isPrimitive();
    }

    /** The bytes that this thread has made, or -1 where the machine does not count them. */
    private static long bytes() {
        if (BEAN instanceof ThreadMXBean bean && bean.isThreadAllocatedMemorySupported()) {
            return bean.getCurrentThreadAllocatedBytes();
        }
        return -1;
    }

    private static void callOften(FormComposer x, ObjIntConsumer<FormComposer> call) {
        for (int i = 0; i < CALLS; i++) {
            call.accept(x, i);
        }
    }

    private static void makesNothing(String name, int[] form, ObjIntConsumer<FormComposer> call) {
        // Once before it is counted: the first time, the machine itself makes what it needs to find the call. Not more
        // often, for a machine that knows a call well may leave out objects that the code makes.
        call.accept(of(form), 0);
        FormComposer x = of(form);
        bytes();
        long before = bytes();
        callOften(x, call);
        long made = bytes() - before;
        due(name + " of D " + form[0] + ": makes objects (" + made + " bytes)", made >= CALLS / 2 * LEAST_OBJECT, false);
    }

    private static void callsMakeNothing() {
        for (int[] form : FORMS) {
            makesNothing("take", form, (x, i) -> x.take(form[0]));
            makesNothing("put", form, (x, i) -> x.put(i & 7, form[1], form[2], form[3]));
            makesNothing("compose", form, (x, i) -> x.compose(2, 2, 1));
            makesNothing("invert", form, (x, i) -> x.invert(2, 2));
            makesNothing("power", form, (x, i) -> x.power(2, 1, Long.MIN_VALUE + i));
            makesNothing("form", form, (x, i) -> x.form(1, i % 3));
            makesNothing("same", form, (x, i) -> x.same(1, i & 7));
            makesNothing("order", form, (x, i) -> x.order(1));
            makesNothing("exponent", form, (x, i) -> x.exponent(1, 2));
            makesNothing("count", form, (x, i) -> x.count(i & 7));
            if (of(form).count(2) > 0) {
                makesNothing("prime", form, (x, i) -> x.prime(0));
                makesNothing("character", form, (x, i) -> x.character(1, 0));
            }
        }
    }

    /** A few calls that change registers, and what the object answers behind them. */
    private static String turn(FormComposer x, int i) {
        x.compose(2, 2, 1);
        x.power(3, 2, i - 3);
        x.invert(4, 3);
        StringBuilder all = new StringBuilder();
        for (int r = 0; r < 8; r++) {
            all.append(x.form(r, 0)).append(' ').append(x.form(r, 1)).append(' ').append(x.form(r, 2)).append(' ');
        }
        for (int what = 0; what < 4; what++) {
            all.append(x.count(what)).append(' ');
        }
        return all.append(x.exponent(1, 4)).append(' ').append(x.order(2)).toString();
    }

    /** Objects that are called by turns answer as each of them does alone. */
    private static void itsOwn() {
        List<FormComposer> together = new ArrayList<>();
        for (int[] form : FORMS) {
            together.add(of(form));
        }
        List<String> answers = new ArrayList<>();
        for (int i = 0; i < 8; i++) {
            for (FormComposer x : together) {
                answers.add(turn(x, i));
            }
        }
        for (int n = 0; n < FORMS.length; n++) {
            FormComposer alone = of(FORMS[n]);
            for (int i = 0; i < 8; i++) {
                due("turn " + i + " of D " + FORMS[n][0], answers.get(i * FORMS.length + n), turn(alone, i));
            }
        }
    }

    public static void main(String[] args) {
        madeOnce(FormComposer.class);
        // Objects that share memory might spoil one another's forms, and then calls need not end soon.
        if (wrong == 0) {
            callsMakeNothing();
            itsOwn();
        }
        System.out.println(wrong == 0 ? "memory is as due" : wrong + " things are not as due");
        if (wrong != 0) {
            System.exit(1);
        }
    }
}
