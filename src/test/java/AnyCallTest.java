import java.lang.reflect.InvocationTargetException;
import java.lang.reflect.Method;
import java.util.Arrays;
import java.util.Comparator;
import java.util.Random;

/** Any arguments in any state: no call throws, and the same calls give the same answers. */
public final class AnyCallTest {
    private static final int RUNS = 600;
    private static final int[] EDGES = {-1, 0, 1, 2, 3, 4, 5, 7, 8, 10, 20, 30, 31, 60, 61, 99, 100, 600, 601, 900, 999, 3600,
        9999, 36000, 2000000000, Integer.MAX_VALUE, Integer.MIN_VALUE, -30, -31};
    private static final String[] PIECES = {"stair odds 50;", "part steps 60 moves 10;", "part steps 5 moves 30 back;",
        "part steps 200 moves 0;", "walker pace 0;", "walker pace 30;", "walker pace 7;", "band 9999;", "band 1;",
        "sides stand 2 walk 3 pace 20 would 40;", "sides stand 9 walk 1 pace 1 would 100;", " ", "\n"};

    public static void main(String[] args) throws IllegalAccessException {
        Method[] methods = MovingStair.class.getDeclaredMethods();
        methods = Arrays.stream(methods).filter(m -> java.lang.reflect.Modifier.isPublic(m.getModifiers()))
                .sorted(Comparator.comparing(Method::toString)).toArray(Method[]::new);
        for (int run = 0; run < RUNS; run++) {
            Check.due("run " + run, run(methods, run), run(methods, run));
        }
        Check.finish("AnyCallTest");
    }

    private static long run(Method[] methods, int seed) throws IllegalAccessException {
        Random draw = new Random(seed);
        MovingStair x = new MovingStair();
        long answers = 0;
        for (int call = 0; call < 512; call++) {
            int kind = draw.nextInt(20);
            if (kind == 0) {
                answers = 31 * answers + Check.tell(x, text(draw));
            } else if (kind == 1) {
                answers = 31 * answers + fillSlot(x, draw);
            } else {
                answers = 31 * answers + any(x, methods[draw.nextInt(methods.length)], draw);
            }
        }
        return answers;
    }

    private static String text(Random draw) {
        StringBuilder text = new StringBuilder(draw.nextInt(8) == 0 ? "" : PIECES[0]);
        int pieces = draw.nextInt(14);
        for (int i = 0; i < pieces; i++) {
            text.append(PIECES[draw.nextInt(draw.nextInt(20) == 0 ? 1 : PIECES.length - 1) + (i == 0 ? 0 : 1)]);
        }
        if (draw.nextInt(5) == 0 && text.length() > 0) {
            text.setCharAt(draw.nextInt(text.length()), (char) draw.nextInt(256));
        }
        return text.toString();
    }

    private static int fillSlot(MovingStair x, Random draw) {
        int slot = draw.nextInt(4);
        int size = 6 * draw.nextInt(11);
        x.row(slot, 1 + draw.nextInt(3), size);
        for (int i = 0; i < size; i++) {
            int byThree = i % 3 == 1 && draw.nextInt(6) > 0 ? draw.nextBoolean() ? 1 : -1 : draw.nextInt(30) + 1;
            x.write(slot, i, draw.nextBoolean() ? byThree : draw.nextInt(101));
        }
        return size;
    }

    private static long any(MovingStair x, Method method, Random draw) throws IllegalAccessException {
        Class<?>[] types = method.getParameterTypes();
        Object[] values = new Object[types.length];
        boolean mild = draw.nextInt(3) > 0;
        for (int i = 0; i < types.length; i++) {
            int value = mild ? draw.nextInt(4) : draw.nextInt(8) == 0 ? draw.nextInt() : EDGES[draw.nextInt(EDGES.length)];
            values[i] = types[i] == long.class ? (Object) (draw.nextInt(4) == 0 ? draw.nextLong() : (long) value) : value;
        }
        try {
            return ((Number) method.invoke(x, values)).longValue();
        } catch (InvocationTargetException e) {
            Check.due(method.getName() + Arrays.toString(values) + " threw " + e.getCause(), 1, 0);
            return 0;
        }
    }
}
