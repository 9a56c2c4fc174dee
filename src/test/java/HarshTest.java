import java.lang.reflect.InvocationTargetException;
import java.lang.reflect.Method;
import java.util.Arrays;
import java.util.Comparator;

/** Any arguments in any state, beyond the 512th call too: no call throws. */
public final class HarshTest {
    private static final int[] HARSH = {Integer.MIN_VALUE, Integer.MIN_VALUE + 1, -1001, -7, -3, -2, -1, 0, 1, 2, 3, 4, 5, 6,
        9, 10, 23, 24, 40, 100, 126, 399, 400, 401, 500, 1000, 3000, 65536, Integer.MAX_VALUE - 1, Integer.MAX_VALUE};
    private static final Method[] METHODS = PrintSpooler.class.getMethods();
    private static long seed = 11;

    public static void main(String[] args) throws IllegalAccessException {
        Check check = new Check();
        // Java gives them in no certain order, and the same calls should come each time.
        Arrays.sort(METHODS, Comparator.comparing(Method::toString));
        for (int run = 0; run < 60; run++) {
            PrintSpooler x = new PrintSpooler();
            for (int call = 0; call < 3000; call++) {
                callOne(check, x);
            }
        }
        check.end();
    }

    private static void callOne(Check check, PrintSpooler x) throws IllegalAccessException {
        Method method = METHODS[random(METHODS.length)];
        if (method.getDeclaringClass() != PrintSpooler.class) {
            help(x);
            return;
        }
        Object[] arguments = new Object[method.getParameterCount()];
        StringBuilder words = new StringBuilder(method.getName());
        for (int i = 0; i < arguments.length; i++) {
            int argument = random(2) == 0 ? random(3) : HARSH[random(HARSH.length)];
            arguments[i] = argument;
            words.append(' ').append(argument);
        }
        try {
            method.invoke(x, arguments);
        } catch (InvocationTargetException e) {
            e.getCause().printStackTrace(System.out);
            check.due(words.toString(), "an exception", "an answer");
        }
    }

    /** Calls that bring the object on, so that there is something to be harsh to. */
    private static void help(PrintSpooler x) {
        switch (random(6)) {
            case 0: x.addDocument(1 + random(400), random(3), 1 + random(500), random(51), 1 + random(500)); break;
            case 1: x.addPrinter(1 + random(3), 1 + random(60), random(2)); break;
            case 2: x.fill(random(3), random(3), random(100)); break;
            case 3: Check.submit(x, random(2), "*"); break;
            case 4: Check.submit(x, random(2), "" + (1 + random(30)) + "-" + (1 + random(60))); break;
            default: x.advance(1 + random(60)); break;
        }
    }

    private static int random(int bound) {
        seed = seed * 6364136223846793005L + 1442695040888963407L;
        return (int) ((seed >>> 33) % bound);
    }
}
