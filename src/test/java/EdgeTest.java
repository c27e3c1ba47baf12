import java.lang.reflect.InvocationTargetException;
import java.lang.reflect.Method;
import java.util.Arrays;
import java.util.Comparator;

/** No call throws, whatever it is given: every method with far and near numbers, on an empty and on a full hunt. */
public final class EdgeTest {
    private static final Checks CHECKS = new Checks("EdgeTest");
    private static final int[] NUMBERS = {
        Integer.MIN_VALUE, -65536, -1, 0, 1, 6, 16, 99, 192, 20000, 65536, Integer.MAX_VALUE};

    public static void main(String[] args) throws IllegalAccessException {
        Method[] methods = HeelHounds.class.getDeclaredMethods();
        Arrays.sort(methods, Comparator.comparing(Method::getName));
        for (Method method : methods) {
            if (java.lang.reflect.Modifier.isPublic(method.getModifiers())) {
                callAll(new HeelHounds(), method);
                callAll(full(), method);
            }
        }
        wordsFarOff();
        CHECKS.end();
    }

    private static HeelHounds full() {
        HeelHounds x = new HeelHounds();
        for (int c = 0; c < 8; c++) {
            Checks.line(x, c, c, c, 40 + c, "4(2(3r.)2dl)");
        }
        Checks.land(x, "~3,3:2x2;a4,4:5x5=7;h0,0:1x1=99");
        Checks.law(x, "x(f/[h-3]>7&n>9);ea*65536*a/c+s(g%c<50|a>0);r9/f(1=1)");
        x.time(100);
        for (int h = 0; h < 6; h++) {
            x.hound(h, h, h);
        }
        x.keep();
        x.moments(3);
        x.feed(-1, 0, 1, 2, 3);
        return x;
    }

    private static void callAll(HeelHounds x, Method method) throws IllegalAccessException {
        int many = method.getParameterCount();
        int combinations = 1;
        for (int i = 0; i < many; i++) {
            combinations *= NUMBERS.length;
        }
        // Five parameters have too many combinations for each to be worth its time.
        int stride = combinations > 20000 ? 37 : 1;
        int thrown = 0;
        for (int i = 0; i < combinations; i += stride) {
            Object[] given = new Object[many];
            int rest = i;
            for (int k = 0; k < many; k++) {
                given[k] = NUMBERS[rest % NUMBERS.length];
                rest /= NUMBERS.length;
            }
            try {
                method.invoke(x, given);
            } catch (InvocationTargetException problem) {
                thrown++;
            }
        }
        CHECKS.due(method.getName() + " throws", thrown, 0);
    }

    /** Numbers whose sums would not fit are refused all the same. */
    private static void wordsFarOff() {
        HeelHounds x = full();
        CHECKS.due("couldBe of far too many", x.couldBe(Integer.MAX_VALUE, 0), -1);
        CHECKS.due("couldBe of 3 times that is 2", x.couldBe(1431655766, 0), -1);
        CHECKS.due("tried of the least", x.tried(1, Integer.MIN_VALUE), -1);
        CHECKS.due("check of the least", x.check(Integer.MIN_VALUE), -2);
        CHECKS.due("where at the least", x.where(0, Integer.MIN_VALUE), -1);
        CHECKS.due("unlooped at the most", x.unlooped(0, Integer.MAX_VALUE), -1);
        CHECKS.due("the tape stays", x.count(7), 20);
    }
}
