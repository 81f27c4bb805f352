import java.lang.invoke.MethodHandle;
import java.lang.invoke.MethodHandles;
import java.lang.reflect.Method;
import java.util.Random;

/** The program's own way from bits to doubles, back, and to roots, beside the machine's, which it may not use. */
public final class RealsTest {
    private static int wrong = 0;

    public static void main(String[] args) throws Throwable {
        MethodHandle realOf = own("realOf", long.class);
        MethodHandle bitsOf = own("bitsOf", double.class);
        MethodHandle root = own("root", double.class);
        long[] edges = {0L, Long.MIN_VALUE, 1L, Long.MIN_VALUE | 1L, 0x000FFFFFFFFFFFFFL, 0x0010000000000000L, 0x0010000000000001L,
            0x7FEFFFFFFFFFFFFFL, 0x7FF0000000000000L, 0xFFF0000000000000L, 0x3FF0000000000000L, 0x3FEFFFFFFFFFFFFFL, 0x3FF0000000000001L};
        for (long bits : edges) look(bits, realOf, bitsOf, root);
        for (int exponent = 0; exponent < 0x7FF; exponent++) {
            look((long) exponent << 52, realOf, bitsOf, root);
            look((long) exponent << 52 | 0xFFFFFFFFFFFFFL, realOf, bitsOf, root);
            look((long) exponent << 52 | Long.MIN_VALUE | 0x8000000000001L, realOf, bitsOf, root);
        }
        Random random = new Random(83);
        for (int i = 0; i < 400000; i++) {
            look(random.nextLong(), realOf, bitsOf, root);
            look(Double.doubleToLongBits(random.nextDouble() * 1000.0), realOf, bitsOf, root);
            look(random.nextLong() >>> (12 + random.nextInt(52)), realOf, bitsOf, root);
            double whole = random.nextInt(1 << 26);
            look(Double.doubleToLongBits(whole * whole), realOf, bitsOf, root);
            look(Double.doubleToLongBits(Math.nextUp(whole * whole)), realOf, bitsOf, root);
        }
        System.out.println(wrong == 0 ? "reals are as the machine's" : wrong + " reals are not as the machine's");
        if (wrong != 0) System.exit(1);
    }

    private static MethodHandle own(String name, Class<?> takes) throws Exception {
        Method method = ReservoirWall.class.getDeclaredMethod(name, takes);
        method.setAccessible(true);
        return MethodHandles.lookup().unreflect(method);
    }

    private static void look(long bits, MethodHandle realOf, MethodHandle bitsOf, MethodHandle root) throws Throwable {
        double d = Double.longBitsToDouble(bits);
        if (d != d) return;
        due("realOf " + bits, Double.doubleToRawLongBits((double) realOf.invokeExact(bits)), bits);
        due("bitsOf " + d, (long) bitsOf.invokeExact(d), bits);
        double want = d > 0.0 ? Math.sqrt(d) : 0.0;
        due("root " + d, Double.doubleToRawLongBits((double) root.invokeExact(d)), Double.doubleToRawLongBits(want));
    }

    private static void due(String what, long got, long want) {
        if (got == want) return;
        wrong++;
        if (wrong < 50) System.out.println(what + " answered " + got + ", due is " + want);
    }
}
