import java.lang.reflect.InvocationTargetException;
import java.lang.reflect.Method;
import java.util.Arrays;
import java.util.Comparator;

/** Long runs of mixed calls, right and wrong ones, each answered as the model answers it. */
public final class ModelTest {
    private static final int RUNS = 1200;
    private static final int CALLS = 512;
    // At the end of a run each rope's text is asked.
    private static final int LAST_CALLS = 4;
    private static final int[] ODD = {Integer.MIN_VALUE, Integer.MAX_VALUE, -9, -1, 0, 1, 69, 70, 240, 241, 255, 256};

    private static final Due due = new Due();
    private static long seed = 20240817L;

    public static void main(String[] args) throws Exception {
        Method[] calls = Signrope.class.getDeclaredMethods();
        calls = Arrays.stream(calls).filter(call -> java.lang.reflect.Modifier.isPublic(call.getModifiers()))
            .sorted(Comparator.comparing(Method::getName)).toArray(Method[]::new);
        int[] answered = new int[calls.length];
        int[] threw = new int[calls.length];
        for (int run = 0; run < RUNS; run++) {
            run(run, calls, answered, threw);
        }
        for (int k = 0; k < calls.length; k++) {
            due.is(calls[k].getName() + " was answered in some run", true, answered[k] > 20);
            due.is(calls[k].getName() + " was refused in some run", calls[k].getExceptionTypes().length > 0,
                threw[k] > 0);
        }
        due.end();
    }

    private static void run(int run, Method[] calls, int[] answered, int[] threw) throws Exception {
        Signrope ropes = new Signrope();
        Model model = new Model();
        int made = 0;
        for (int k = 0; made + 2 <= CALLS - LAST_CALLS; k++) {
            int which = below(calls.length);
            Method call = calls[which];
            int[] numbers = numbersFor(call, model);
            boolean is = below(2) == 0;
            Object want;
            try {
                want = model.answer(call.getName(), numbers, is);
                answered[which]++;
            } catch (RuntimeException thrown) {
                want = thrown.getClass();
                threw[which]++;
            }
            String told = "run " + run + " call " + k + ": " + call.getName() + Arrays.toString(numbers) + " " + is;
            due.is(told, want, answerOf(ropes, call, numbers, is));
            made++;
            // The digest goes over each text, so nothing that a call changes wrongly stays unseen for long.
            if (k % 8 == 0 || want instanceof Class) {
                due.is(told + ", then digest", model.answer("digest", numbers, is), ropes.digest());
                made++;
            }
        }
        for (int rope = 0; rope < 4; rope++) {
            due.is("run " + run + ": text " + rope, model.answer("text", new int[] {rope}, true), ropes.text(rope));
        }
    }

    private static Object answerOf(Signrope ropes, Method call, int[] numbers, boolean is) throws Exception {
        Class<?>[] types = call.getParameterTypes();
        Object[] arguments = new Object[types.length];
        int next = 0;
        for (int k = 0; k < types.length; k++) {
            arguments[k] = types[k] == boolean.class ? (Object) is : (Object) numbers[next++];
        }
        try {
            return call.invoke(ropes, arguments);
        } catch (InvocationTargetException thrown) {
            return thrown.getCause().getClass();
        }
    }

    // A number is drawn after its parameter's meaning, as the position alone would seldom hit a valid call.
    private static int[] numbersFor(Method call, Model model) {
        int[] numbers = new int[5];
        String name = call.getName();
        for (int k = 0; k < numbers.length; k++) {
            int kind = below(40);
            if (kind == 0) {
                numbers[k] = ODD[below(ODD.length)];
            } else if (k == 0 && !name.equals("wordText") && !name.equals("house")) {
                numbers[k] = below(4);
            } else if (kind < 4) {
                numbers[k] = below(260) - 4;
            } else {
                numbers[k] = likely(name, k, numbers, model);
            }
        }
        return numbers;
    }

    private static int likely(String name, int k, int[] numbers, Model model) {
        int rope = Math.floorMod(numbers[0], 4);
        switch (name) {
            case "wordText":
                return below(70);
            case "house":
                return below(5);
            case "number":
            case "longNumber":
                return anyNumber();
            case "sign":
            case "point":
                return below(140);
            case "setLength":
                return below(4) == 0 ? 200 + below(42) : below(60);
            case "begin":
            case "word":
            case "row":
            case "find":
                return below(70);
            case "beginAs":
            case "compare":
            case "rope":
                return below(4);
            case "findFrom":
                return k == 1 ? below(70) : below(model.length(rope) + 3) - 1;
            case "rowPart":
                return k == 1 ? below(70) : below(5);
            case "ropePart":
                return k == 1 ? below(4) : placeNear(model, Math.floorMod(numbers[1], 4), k == 3 ? numbers[2] : 0);
            case "replace":
                return k == 3 ? below(70) : placeNear(model, rope, k == 2 ? numbers[1] : 0);
            case "replaceBy":
                return k == 3 ? below(4) : placeNear(model, rope, k == 2 ? numbers[1] : 0);
            case "delete":
            case "part":
                return placeNear(model, rope, k == 2 ? numbers[1] : 0);
            default:
                return likelyPut(name, k, numbers, model);
        }
    }

    private static int likelyPut(String name, int k, int[] numbers, Model model) {
        if (k == 1) {
            return placeNear(model, Math.floorMod(numbers[0], 4), 0);
        }
        switch (name) {
            case "putNumber":
            case "putLong":
                return anyNumber();
            case "putSign":
            case "setSign":
                return below(256);
            case "putRope":
                return below(4);
            case "putRowPart":
                return k == 2 ? below(70) : below(5);
            case "putPart":
                return k == 2 ? below(4) : placeNear(model, Math.floorMod(numbers[2], 4), k == 4 ? numbers[3] : 0);
            default:
                return below(70);
        }
    }

    private static int placeNear(Model model, int rope, int from) {
        int left = model.length(rope) - from;
        return left < 0 ? from - below(3) : from + below(left + (below(6) == 0 ? 4 : 1));
    }

    private static int anyNumber() {
        int digits = below(32);
        int number = (int) (next() >>> 20) >> digits;
        return below(8) == 0 ? ODD[below(ODD.length)] : number;
    }

    private static int below(int bound) {
        return (int) Math.floorMod(next() >>> 17, (long) bound);
    }

    private static long next() {
        seed = seed * 6364136223846793005L + 1442695040888963407L;
        return seed;
    }
}
