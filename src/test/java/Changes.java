import java.util.LinkedHashMap;
import java.util.Map;
import java.util.function.Consumer;

/** Calls of each method that changes a table, on a grid where each of them makes a difference. */
final class Changes {
    private Changes() {
    }

    /** A table with a header, a wide cell, contents, styles and sizes. */
    static MergeGrid begun() {
        MergeGrid grid = Grids.numbered();
        grid.setContent(1, 1, 0);
        Grids.merged(grid, 1, 1, 1, 2);
        grid.setHeader(1);
        grid.setWidth(2, 90);
        grid.setHeight(2, 40);
        grid.select(2, 2, 3, 3);
        grid.clear();
        grid.copy();
        return grid;
    }

    /** All changes by their names. */
    static Map<String, Consumer<MergeGrid>> all() {
        Map<String, Consumer<MergeGrid>> changes = ofFirstSquare();
        changes.putAll(others());
        return changes;
    }

    /** Those behind which the document selects the first square. */
    static Map<String, Consumer<MergeGrid>> ofFirstSquare() {
        Map<String, Consumer<MergeGrid>> changes = new LinkedHashMap<>();
        changes.put("insertRow", grid -> grid.insertRow(1));
        changes.put("insertRow of the header", grid -> grid.insertRow(0));
        changes.put("insertColumn", grid -> grid.insertColumn(2));
        changes.put("deleteRow", grid -> grid.deleteRow(1));
        changes.put("deleteRow of the header", grid -> grid.deleteRow(0));
        changes.put("deleteColumn", grid -> grid.deleteColumn(2));
        changes.put("moveRow", grid -> grid.moveRow(1, 3));
        changes.put("split", grid -> grid.split(1, 2, 's'));
        changes.put("paste", grid -> grid.paste(2, 0, 1, 2));
        changes.put("sort", grid -> grid.sort(0, false));
        return changes;
    }

    /** Those behind which the selection stays. */
    static Map<String, Consumer<MergeGrid>> others() {
        Map<String, Consumer<MergeGrid>> changes = new LinkedHashMap<>();
        changes.put("setContent", grid -> grid.setContent(0, 0, 500));
        changes.put("setStyle", grid -> grid.setStyle(9));
        changes.put("merge", grid -> {
            grid.select(2, 2, 3, 3);
            grid.merge();
        });
        changes.put("clear", grid -> {
            grid.select(0, 0, 3, 3);
            grid.clear();
        });
        changes.put("setHeader", grid -> grid.setHeader(3));
        changes.put("setWidth", grid -> grid.setWidth(3, 20));
        changes.put("setHeight", grid -> grid.setHeight(3, 21));
        changes.put("drag", grid -> grid.drag(1, 30));
        changes.put("even", grid -> grid.even(0, 2));
        return changes;
    }
}
