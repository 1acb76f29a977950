import java.lang.reflect.InvocationTargetException;
import java.lang.reflect.Method;
import java.util.ArrayList;
import java.util.Arrays;
import java.util.Comparator;
import java.util.List;

/** Runs of 512 calls, the same ones every time, on a MergeGrid and on the model: all answers are the same. */
public final class RandomRunsTest {
    private static final int RUNS = 400;
    private static final int CALLS = 512;
    /** Calls that make the table richer, asked for more often than others. */
    private static final List<String> OFTEN = List.of("select", "merge", "setContent", "insertRow",
            "insertColumn", "split", "paste", "setHeader", "sort", "moveRow", "takeBack");
    /** What somebody does with a selection: many other calls would lose it. */
    private static final List<String> AFTER_SELECT = List.of("merge", "merge", "merge", "clear", "copy",
            "setStyle", "selected", "selectedCells", "sum", "mean");

    private final Answers answers = new Answers("RandomRunsTest");
    private long seed = 20261119;

    private RandomRunsTest() {
    }

    public static void main(String[] args) throws ReflectiveOperationException {
        RandomRunsTest test = new RandomRunsTest();
        for (int run = 0; run < RUNS; run++) {
            test.run(run);
        }
        test.answers.end();
    }

    private int below(int bound) {
        seed = seed * 6364136223846793005L + 1442695040888963407L;
        return (int) ((seed >>> 33) % bound);
    }

    private static List<Method> face() {
        Method[] all = MergeGrid.class.getDeclaredMethods();
        List<Method> face = new ArrayList<>();
        for (Method method : all) {
            if (java.lang.reflect.Modifier.isPublic(method.getModifiers())) {
                face.add(method);
                if (OFTEN.contains(method.getName())) {
                    face.addAll(List.of(method, method, method));
                }
            }
        }
        face.sort(Comparator.comparing(Method::getName));
        return face;
    }

    private void run(int run) throws ReflectiveOperationException {
        List<Method> face = face();
        MergeGrid grid = new MergeGrid();
        Model model = new Model();
        Method method = face.get(0);
        for (int call = 0; call < CALLS; call++) {
            method = next(face, method);
            Object[] arguments = arguments(method, grid);
            Method twin = Model.class.getDeclaredMethod(method.getName(), method.getParameterTypes());
            String told = "run " + run + ", call " + call + ": " + method.getName() + Arrays.toString(arguments);
            Object got = answer(method, grid, arguments);
            answers.due(told, got, answer(twin, model, arguments));
            if (call % 16 == 15) {
                compareAll(told, face, grid, model);
            }
        }
    }

    private Method next(List<Method> face, Method last) {
        if (!last.getName().equals("select") || below(4) == 0) {
            return face.get(below(face.size()));
        }
        String name = AFTER_SELECT.get(below(AFTER_SELECT.size()));
        return face.stream().filter(method -> method.getName().equals(name)).findFirst().orElse(last);
    }

    private static Object answer(Method method, Object target, Object[] arguments)
            throws IllegalAccessException {
        try {
            return method.invoke(target, arguments);
        } catch (InvocationTargetException e) {
            return "throws." + e.getCause().getClass().getSimpleName();
        }
    }

    /** Every method that asks, at every square, row and column. */
    private void compareAll(String told, List<Method> face, MergeGrid grid, Model model)
            throws ReflectiveOperationException {
        for (Method method : face) {
            String name = method.getName();
            Method twin = Model.class.getDeclaredMethod(name, method.getParameterTypes());
            boolean isOfSquare = name.endsWith("Of") || name.endsWith("At") && !name.equals("cellAt");
            boolean isOfAll = List.of("rows", "columns", "cellCount", "cellsBySquares", "header", "selectedCells",
                    "sum", "mean", "mergedShare", "isTiled").contains(name);
            for (int i = 0; i < (isOfSquare ? grid.rows() * grid.columns() : isOfAll ? 1 : 0); i++) {
                Object[] arguments = new Object[method.getParameterCount()];
                for (int j = 0; j < arguments.length; j++) {
                    arguments[j] = j == 0 && arguments.length == 2 ? i / grid.columns() : i % grid.columns();
                }
                answers.due(told + ", then " + name + Arrays.toString(arguments),
                        answer(method, grid, arguments), answer(twin, model, arguments));
            }
        }
    }

    private Object[] arguments(Method method, MergeGrid grid) {
        Class<?>[] types = method.getParameterTypes();
        Object[] arguments = new Object[types.length];
        for (int i = 0; i < types.length; i++) {
            arguments[i] = types[i] == boolean.class ? (Object) (below(2) == 0)
                    : types[i] == char.class ? (Object) letter(method.getName())
                    : (Object) number(method.getName(), i, grid);
        }
        return arguments;
    }

    private char letter(String name) {
        String letters = name.equals("selected") ? "tblrtblrx" : "srcsrcsrcx";
        return letters.charAt(below(letters.length()));
    }

    private int number(String name, int place, MergeGrid grid) {
        if (below(40) == 0) {
            return new int[] {-1, 13, 5, Integer.MIN_VALUE, Integer.MAX_VALUE, 1000}[below(6)];
        }
        switch (name + place) {
            case "setContent2":
                return below(3) == 0 ? 0 : below(2) == 0 ? below(5) : below(1002) - 1;
            case "setStyle0":
                return below(11);
            case "setWidth1":
                return 5 + below(200);
            case "setHeight1":
                return 3 + below(100);
            case "drag1":
                return below(81) - 40;
            case "cellAt0":
                return below(600) - 5;
            case "cellAt1":
                return below(400) - 5;
            case "paste2":
            case "paste3":
                return 1 + below(below(2) == 0 ? 1 : 4);
            case "setHeader0":
                return below(2) == 0 ? below(3) : below(grid.rows() + 1);
            case "deleteRow0":
                return below(3) == 0 ? below(grid.rows()) : grid.rows();
            case "deleteColumn0":
                return below(3) == 0 ? below(grid.columns()) : grid.columns();
            default:
                return line(name, place, grid);
        }
    }

    private int line(String name, int place, MergeGrid grid) {
        boolean isSelect = name.equals("select") || name.equals("squaresFor");
        if (isSelect && place >= 2 && below(4) != 0) {
            return Math.min(below(4), (place == 2 ? grid.rows() : grid.columns()) - 1);
        }
        boolean isColumn = place % 2 == 1 && !name.equals("moveRow")
                || List.of("widthOf", "setWidth", "sort", "drag", "even", "insertColumn").contains(name);
        return below((isColumn ? grid.columns() : grid.rows()) + (below(10) == 0 ? 1 : 0));
    }
}
