import java.lang.reflect.InvocationTargetException;
import java.lang.reflect.Method;
import java.lang.reflect.Modifier;
import java.util.ArrayList;
import java.util.Arrays;
import java.util.List;
import java.util.Random;

/** No call throws what its throws clause does not name, for any arguments and however many calls. */
public final class LimitsTests {
    private static final int[] ODD = {Integer.MIN_VALUE, -50, -8, -7, -2, -1, 0, 1, 2, 3, 4, 5, 6, 7, 8, 24, 32, 33,
        41, 48, 49, 50, 59, 60, 97, 126, 127, 587, 588, 2400, 2401, Integer.MAX_VALUE};

    public static void main(String[] args) throws IllegalAccessException {
        oddArguments();
        farBeyondTheCalls();
        manyPieces();
        Check.end("LimitsTests");
    }

    private static void oddArguments() throws IllegalAccessException {
        Random random = new Random(7);
        List<Method> methods = new ArrayList<>();
        for (Method method : HallGuards.class.getDeclaredMethods()) {
            if (Modifier.isPublic(method.getModifiers())) {
                methods.add(method);
            }
        }
        methods.sort((one, other) -> one.getName().compareTo(other.getName()));
        for (int run = 0; run < 20; run++) {
            HallGuards hall = new HallGuards();
            for (int call = 0; call < 2000; call++) {
                odd(hall, methods.get(random.nextInt(methods.size())), random);
            }
        }
    }

    private static void odd(HallGuards hall, Method method, Random random) throws IllegalAccessException {
        Object[] numbers = new Object[method.getParameterCount()];
        for (int index = 0; index < numbers.length; index++) {
            numbers[index] = ODD[random.nextInt(ODD.length)];
        }
        String call = method.getName() + Arrays.toString(numbers);
        List<Class<?>> named = List.of(method.getExceptionTypes());
        try {
            method.invoke(hall, numbers);
        } catch (InvocationTargetException thrown) {
            Throwable cause = thrown.getCause();
            Check.due(call + " throws " + cause, true, () -> named.contains(cause.getClass()));
        }
    }

    private static void farBeyondTheCalls() {
        HallGuards hall = new HallGuards();
        String[] steps = {"d1c1", "d3e3", "c1b1", "e3f3", "b1c1", "f3e3", "c1d1", "e3d3"};
        for (int call = 0; call < 20000; call++) {
            String step = steps[call % 8];
            if (hall.standing() != 1) {
                hall.setUp();
            } else if (hall.canMove(Check.at(step.substring(0, 2)), Check.at(step.substring(2)))) {
                Check.answerOf(() -> Check.go(hall, step.substring(0, 2), step.substring(2)));
            }
        }
        Check.due("the game goes its way", true, () -> hall.draws() > 1000);
    }

    /** All squares full, or as many moves as there can be. */
    private static void manyPieces() {
        HallGuards full = Check.board(".TTTTT.", "TTTTTTT", "TTTTTTT", "TTT.TTT", "TTTTTTT", "TTTTTTT", ".TTTTT.");
        Check.due("44 tables", 44, () -> full.piecesOf(0));
        Check.due("no move over the throne", 0, () -> full.movesByPieces(0));
        full.put(3, 3, 3);
        Check.due("none with the king on it", 0, () -> full.start(1));
        Check.due("the king's four", 4, full::kingPressure);
        Check.due("the digest stands", full.digest(), full::digest);
        HallGuards wide = Check.board(".T.G.T.", "G.T.T.G", ".G.T.G.", "T.G.G.T", ".G.T.G.", "G.T.T.G", ".T.K.T.");
        Check.due("moves of both ways", wide.movesByPieces(1), () -> wide.movesBySquares(1));
        Check.due("best of the side 1", wide.bestMove(1), () -> wide.bestMove(1));
    }
}
