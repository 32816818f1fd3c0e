import java.lang.reflect.Method;
import java.lang.reflect.Modifier;
import java.util.Arrays;
import java.util.Comparator;
import java.util.Random;

/** Every call with numbers of every size, in every sort of state: none throws, what is refused changes nothing. */
final class EdgesTest {
    private static final int[] NUMBERS = {Integer.MIN_VALUE, Integer.MIN_VALUE + 1, -1000, -1, 0, 1, 2, 3, 4, 5, 6, 7,
        8, 12, 13, 39, 40, 41, 63, 64, 65, 79, 80, 81, 255, 256, 1 << 30, Integer.MAX_VALUE - 1, Integer.MAX_VALUE};
    private static final Due due = new Due("EdgesTest");

    public static void main(String[] args) throws Exception {
        Method[] calls = NeitherBare.class.getDeclaredMethods();
        calls = Arrays.stream(calls).filter(m -> Modifier.isPublic(m.getModifiers())).toArray(Method[]::new);
        Arrays.sort(calls, Comparator.comparing(Method::getName));
        for (int state = 0; state < 5; state++) {
            for (Method call : calls) {
                Random random = new Random(state * 1000L + call.getName().hashCode());
                NeitherBare x = made(state);
                for (int i = 0; i < 1500; i++) {
                    // Anew every now and then: an object is used for 512 calls at most.
                    if (i % 30 == 0) {
                        x = made(state);
                    }
                    look(x, call, numbers(random, call.getParameterCount()));
                }
            }
        }
        due.end();
    }

    private static NeitherBare made(int state) {
        switch (state) {
            case 0:
                return new NeitherBare();
            case 1:
                return Due.court("t00000");
            case 2:
                return full("t33339t33339t33339t33339t33339t33339c0n1b23u0h2x10c3n3");
            case 3:
                return full("t21003t03012t12215t00334t30001 n0 u1 c2 b23 h0 x31");
            default:
                NeitherBare x = full("t10000t20000 c0 c0 c0 c0 c0 c0 c0 c0");
                for (int i = 0; i < 40; i++) {
                    x.strike(7, 1 - i % 2);
                }
                return x;
        }
    }

    private static NeitherBare full(String signs) {
        NeitherBare x = Due.court(signs);
        x.row(0, 39);
        x.row(1, 40);
        Due.fill(x, 2, 0, 3, 1, 0, 3, 0);
        x.row(3, 0);
        Due.fill(x, 4, Integer.MAX_VALUE, Integer.MIN_VALUE, -1, 64, 2, 3);
        x.text(1, 80);
        x.text(2, 0);
        x.keep(0);
        x.move(1, 0, 0);
        x.keep(1);
        return x;
    }

    private static Object[] numbers(Random random, int many) {
        Object[] numbers = new Object[many];
        for (int i = 0; i < many; i++) {
            boolean small = random.nextInt(3) > 0;
            numbers[i] = small ? random.nextInt(6) : NUMBERS[random.nextInt(NUMBERS.length)];
        }
        return numbers;
    }

    private static void look(NeitherBare x, Method call, Object[] numbers) throws Exception {
        String name = call.getName() + Arrays.toString(numbers);
        long digest = x.digest();
        long told = x.asked() * 31L + x.upper() * 7L + x.lower();
        long answer = ((Number) call.invoke(x, numbers)).longValue();
        boolean isPut = call.getName().equals("put");
        if (answer < 0 && answer >= -6 && !isPut) {
            due.is(name + " refused, digest()", x.digest(), digest);
            due.is(name + " refused, told", x.asked() * 31L + x.upper() * 7L + x.lower(), told);
        }
        if (answer == -3 && !isPut) {
            due.is(name + " finding()", x.finding() >= 1 && x.finding() <= 5 ? 1 : 0, 1);
        }
    }
}
