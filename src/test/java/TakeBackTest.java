import java.util.LinkedHashMap;
import java.util.Map;
import java.util.function.Consumer;

/** Promise 39: each change is taken back, and brought back; what throws is no change. */
public final class TakeBackTest {
    private static final Class<IllegalStateException> STATE = IllegalStateException.class;
    private static final Answers ANSWERS = new Answers("TakeBackTest");

    private TakeBackTest() {
    }

    public static void main(String[] args) {
        eachChangeIsTakenBack();
        eachChangeCountsAlthoughNothingDiffers();
        nothingToTakeBack();
        whatThrowsIsNoChange();
        whatAsksIsNoChange();
        onlyTheLastOne();
        theSelection();
        ANSWERS.end();
    }

    private static void eachChangeIsTakenBack() {
        for (Map.Entry<String, Consumer<MergeGrid>> change : Changes.all().entrySet()) {
            String name = change.getKey();
            MergeGrid grid = Changes.begun();
            String before = Look.table(grid);
            int cellsBefore = grid.cellCount();
            change.getValue().accept(grid);
            String after = Look.table(grid);
            boolean isSame = grid.cellCount() == cellsBefore;
            ANSWERS.due(name + " changes something", before.equals(after), false);
            ANSWERS.due("takeBack() of " + name, grid.takeBack(), isSame);
            ANSWERS.due("the table without " + name, Look.table(grid), before);
            ANSWERS.due("the selection without " + name, Look.selection(grid), "00..00 of 1 with 1");
            ANSWERS.due("takeBack() of that", grid.takeBack(), isSame);
            ANSWERS.due("the table with " + name, Look.table(grid), after);
            grid.takeBack();
            ANSWERS.due("the table without " + name + " again", Look.table(grid), before);
            change.getValue().accept(grid);
            grid.takeBack();
            ANSWERS.due("the table after another " + name, Look.table(grid), before);
        }
    }

    /** A call that did not throw is the last change, even if the table looks the same behind it. */
    private static void eachChangeCountsAlthoughNothingDiffers() {
        Map<String, Consumer<MergeGrid>> calls = new LinkedHashMap<>();
        calls.put("setContent", grid -> grid.setContent(1, 1, 0));
        calls.put("setStyle", grid -> grid.setStyle(0));
        calls.put("setHeader", grid -> grid.setHeader(0));
        calls.put("sort", grid -> grid.sort(3, true));
        calls.put("setWidth", grid -> grid.setWidth(0, 50));
        calls.put("setHeight", grid -> grid.setHeight(0, 20));
        calls.put("drag", grid -> grid.drag(0, 0));
        calls.put("even", grid -> grid.even(0, 3));
        for (Map.Entry<String, Consumer<MergeGrid>> call : calls.entrySet()) {
            MergeGrid grid = new MergeGrid();
            grid.setContent(0, 0, 7);
            call.getValue().accept(grid);
            ANSWERS.due("takeBack() of " + call.getKey(), grid.takeBack(), true);
            ANSWERS.due("the content in front of " + call.getKey(), grid.contentAt(0, 0), 7);
        }
    }

    private static void nothingToTakeBack() {
        MergeGrid grid = new MergeGrid();
        ANSWERS.dueThrow("takeBack() at first", grid, STATE, grid::takeBack);
        grid.select(1, 1, 2, 2);
        grid.copy();
        ANSWERS.dueThrow("takeBack() after a selection and a copy", grid, STATE, grid::takeBack);
        grid.setStyle(0);
        ANSWERS.due("takeBack() of a change", grid.takeBack(), true);
    }

    private static Map<String, Consumer<MergeGrid>> throwers() {
        Map<String, Consumer<MergeGrid>> calls = new LinkedHashMap<>();
        calls.put("insertRow(9)", grid -> grid.insertRow(9));
        calls.put("insertColumn(9)", grid -> grid.insertColumn(9));
        calls.put("deleteRow(9)", grid -> grid.deleteRow(9));
        calls.put("deleteColumn(9)", grid -> grid.deleteColumn(9));
        calls.put("moveRow(1, 1)", grid -> grid.moveRow(1, 1));
        calls.put("setContent(0, 0, 1000)", grid -> grid.setContent(0, 0, 1000));
        calls.put("setStyle(10)", grid -> grid.setStyle(10));
        calls.put("select(0, 0, 9, 9)", grid -> grid.select(0, 0, 9, 9));
        calls.put("merge()", MergeGrid::merge);
        calls.put("split(0, 0, 's')", grid -> grid.split(0, 0, 's'));
        calls.put("clear()", MergeGrid::clear);
        calls.put("paste(0, 0, 1, 1)", grid -> grid.paste(0, 0, 1, 1));
        calls.put("setHeader(9)", grid -> grid.setHeader(9));
        calls.put("sort(9, true)", grid -> grid.sort(9, true));
        calls.put("setWidth(0, 9)", grid -> grid.setWidth(0, 9));
        calls.put("setHeight(0, 4)", grid -> grid.setHeight(0, 4));
        calls.put("drag(0, 500)", grid -> grid.drag(0, 500));
        calls.put("even(1, 1)", grid -> grid.even(1, 1));
        return calls;
    }

    private static boolean isThrowing(Consumer<MergeGrid> call, MergeGrid grid) {
        try {
            call.accept(grid);
            return false;
        } catch (RuntimeException e) {
            return true;
        }
    }

    private static void whatThrowsIsNoChange() {
        for (Map.Entry<String, Consumer<MergeGrid>> call : throwers().entrySet()) {
            MergeGrid fresh = new MergeGrid();
            ANSWERS.due(call.getKey() + " throws", isThrowing(call.getValue(), fresh), true);
            ANSWERS.dueThrow("takeBack() after " + call.getKey(), fresh, STATE, fresh::takeBack);
            MergeGrid grid = new MergeGrid();
            grid.setContent(3, 3, 77);
            String before = Look.at(grid);
            ANSWERS.due(call.getKey() + " throws then", isThrowing(call.getValue(), grid), true);
            ANSWERS.due(call.getKey() + " changes nothing", Look.at(grid), before);
            grid.takeBack();
            ANSWERS.due("taken back after " + call.getKey(), grid.contentAt(3, 3), 0);
            grid.takeBack();
            ANSWERS.due("brought back after " + call.getKey(), Look.at(grid), before);
        }
    }

    private static void whatAsksIsNoChange() {
        MergeGrid grid = new MergeGrid();
        grid.setContent(1, 1, 77);
        grid.select(1, 1, 2, 2);
        grid.squaresFor(0, 0, 3, 3);
        grid.copy();
        grid.mean();
        grid.cellAt(0, 0);
        grid.sizeOf(0, 0);
        Look.at(grid);
        ANSWERS.due("takeBack()", grid.takeBack(), true);
        ANSWERS.due("contentAt(1, 1)", grid.contentAt(1, 1), 0);
    }

    private static void onlyTheLastOne() {
        MergeGrid grid = new MergeGrid();
        grid.setContent(0, 0, 1);
        grid.setContent(0, 1, 2);
        grid.takeBack();
        grid.setContent(0, 2, 3);
        grid.takeBack();
        ANSWERS.due("the first change", grid.contentAt(0, 0), 1);
        ANSWERS.due("the second one", grid.contentAt(0, 1), 0);
        ANSWERS.due("the third one", grid.contentAt(0, 2), 0);
        grid.takeBack();
        ANSWERS.due("the third one, brought back", grid.contentAt(0, 2), 3);
        ANSWERS.due("the second one stays away", grid.contentAt(0, 1), 0);
    }

    private static void theSelection() {
        MergeGrid grid = new MergeGrid();
        grid.select(0, 0, 1, 1);
        grid.merge();
        grid.select(2, 2, 3, 3);
        ANSWERS.due("takeBack() of a merge", grid.takeBack(), false);
        ANSWERS.due("the selection", Look.selection(grid), "00..00 of 1 with 0");
        grid.select(2, 2, 3, 3);
        grid.takeBack();
        ANSWERS.due("the selection, grown", Look.selection(grid), "00..11 of 1 with 0");
    }
}
