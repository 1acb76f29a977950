import java.util.LinkedHashMap;
import java.util.Map;
import java.util.function.Consumer;

/** The two sentences of the terms about exceptions. */
final class ExceptionsEdges {
    private final Edges edges;
    private final Map<String, Consumer<MergeGrid>> calls = new LinkedHashMap<>();

    ExceptionsEdges(Edges edges) {
        this.edges = edges;
    }

    void run() {
        changeNothing();
        firstListedIndex();
        firstListedOthers();
    }

    /** A table where each method can be refused for each of its reasons. */
    private static MergeGrid richest() {
        MergeGrid grid = Line.ROW.withCell(Grids.used(12, 10), 1, 1, 2, 2);
        Line.ROW.withCell(grid, 7, 7, 8, 8);
        grid.select(7, 7, 7, 7);
        grid.copy();
        grid.select(5, 4, 6, 5);
        grid.setHeight(11, 100);
        return grid;
    }

    private static MergeGrid emptiest() {
        MergeGrid grid = Grids.sized(1, 1);
        grid.setWidth(0, 77);
        return grid;
    }

    private void changeNothing() {
        edges.terms("A method that throws an exception changes nothing.");
        addLines();
        addCells();
        addSizes();
        MergeGrid all = richest();
        for (Map.Entry<String, Consumer<MergeGrid>> call : calls.entrySet()) {
            MergeGrid grid = richest();
            edges.due(call.getKey() + " throws", Edges.outcome(grid, call.getValue()).endsWith("Exception"), true);
            edges.dueTwin(call.getKey(), grid, richest());
            Edges.outcome(all, call.getValue());
        }
        edges.dueTwin("all of them", all, richest());
        changeNothingOfTheLeast();
        changeNothingOfTheFirst();
    }

    private void addLines() {
        calls.put("insertRow(13)", grid -> grid.insertRow(13));
        calls.put("insertRow(3)", grid -> grid.insertRow(3));
        calls.put("insertColumn(11)", grid -> grid.insertColumn(11));
        calls.put("insertColumn(3)", grid -> grid.insertColumn(3));
        calls.put("deleteRow(12)", grid -> grid.deleteRow(12));
        calls.put("deleteColumn(10)", grid -> grid.deleteColumn(10));
        calls.put("moveRow(12, 0)", grid -> grid.moveRow(12, 0));
        calls.put("moveRow(4, 4)", grid -> grid.moveRow(4, 4));
        calls.put("moveRow(0, 1)", grid -> grid.moveRow(0, 1));
        calls.put("moveRow(5, 6)", grid -> grid.moveRow(5, 6));
        calls.put("setHeader(13)", grid -> grid.setHeader(13));
        calls.put("setHeader(2)", grid -> grid.setHeader(2));
        calls.put("sort(10, true)", grid -> grid.sort(10, true));
        calls.put("sort(0, true)", grid -> grid.sort(0, true));
    }

    private void addCells() {
        calls.put("topOf(12, 0)", grid -> grid.topOf(12, 0));
        calls.put("leftOf(12, 0)", grid -> grid.leftOf(12, 0));
        calls.put("rowsOf(12, 0)", grid -> grid.rowsOf(12, 0));
        calls.put("columnsOf(12, 0)", grid -> grid.columnsOf(12, 0));
        calls.put("contentAt(12, 0)", grid -> grid.contentAt(12, 0));
        calls.put("styleAt(12, 0)", grid -> grid.styleAt(12, 0));
        calls.put("setContent(0, 10, 5)", grid -> grid.setContent(0, 10, 5));
        calls.put("setContent(0, 0, 1000)", grid -> grid.setContent(0, 0, 1000));
        calls.put("setStyle(10)", grid -> grid.setStyle(10));
        calls.put("select(0, 0, 12, 0)", grid -> grid.select(0, 0, 12, 0));
        calls.put("selected('x')", grid -> grid.selected('x'));
        calls.put("squaresFor(0, 0, 0, 10)", grid -> grid.squaresFor(0, 0, 0, 10));
        calls.put("merge()", MergeGrid::merge);
        calls.put("split(0, 10, 's')", grid -> grid.split(0, 10, 's'));
        calls.put("split(1, 1, 'x')", grid -> grid.split(1, 1, 'x'));
        calls.put("split(0, 0, 's')", grid -> grid.split(0, 0, 's'));
        calls.put("paste(12, 0, 1, 1)", grid -> grid.paste(12, 0, 1, 1));
        calls.put("paste(0, 0, 0, 1)", grid -> grid.paste(0, 0, 0, 1));
        calls.put("paste(11, 0, 1, 1)", grid -> grid.paste(11, 0, 1, 1));
        calls.put("paste(0, 0, 1, 1)", grid -> grid.paste(0, 0, 1, 1));
        calls.put("paste(5, 5, 1, 1)", grid -> grid.paste(5, 5, 1, 1));
    }

    private void addSizes() {
        calls.put("widthOf(10)", grid -> grid.widthOf(10));
        calls.put("heightOf(12)", grid -> grid.heightOf(12));
        calls.put("setWidth(10, 50)", grid -> grid.setWidth(10, 50));
        calls.put("setWidth(0, 201)", grid -> grid.setWidth(0, 201));
        calls.put("setHeight(12, 50)", grid -> grid.setHeight(12, 50));
        calls.put("setHeight(0, 101)", grid -> grid.setHeight(0, 101));
        calls.put("drag(9, 1)", grid -> grid.drag(9, 1));
        calls.put("drag(0, 200)", grid -> grid.drag(0, 200));
        calls.put("even(0, 10)", grid -> grid.even(0, 10));
        calls.put("even(5, 5)", grid -> grid.even(5, 5));
        calls.put("sizeOf(0, 10)", grid -> grid.sizeOf(0, 10));
        calls.put("cellAt(-1, 0)", grid -> grid.cellAt(-1, 0));
    }

    private void changeNothingOfTheLeast() {
        edges.dueThrow("deleteRow(0) of 1", ExceptionsEdges::emptiest, Edges.STATE, grid -> grid.deleteRow(0));
        edges.dueThrow("deleteColumn(0) of 1", ExceptionsEdges::emptiest, Edges.STATE, grid -> grid.deleteColumn(0));
        edges.dueThrow("merge() of one cell", ExceptionsEdges::emptiest, Edges.STATE, MergeGrid::merge);
        edges.dueThrow("clear() of empty cells", ExceptionsEdges::emptiest, Edges.STATE, MergeGrid::clear);
        edges.dueThrow("paste() of nothing", ExceptionsEdges::emptiest, Edges.STATE, grid -> grid.paste(0, 0, 1, 1));
        edges.dueThrow("mean() of empty cells", ExceptionsEdges::emptiest, ArithmeticException.class, MergeGrid::mean);
        edges.dueThrow("takeBack() of no change", MergeGrid::new, Edges.STATE, MergeGrid::takeBack);
    }

    /** A call that threw on a new object leaves nothing to take back and nothing copied. */
    private void changeNothingOfTheFirst() {
        calls.put("clear()", MergeGrid::clear);
        calls.put("mean()", MergeGrid::mean);
        calls.put("takeBack()", MergeGrid::takeBack);
        for (Map.Entry<String, Consumer<MergeGrid>> call : calls.entrySet()) {
            MergeGrid grid = new MergeGrid();
            if (Edges.outcome(grid, call.getValue()).endsWith("Exception")) {
                edges.dueTwin(call.getKey() + " of a new object", grid, new MergeGrid());
            }
        }
    }

    private void dueFirst(String call, Class<? extends RuntimeException> want, Consumer<MergeGrid> run) {
        edges.dueThrow(call, ExceptionsEdges::richest, want, run);
    }

    private void firstListedIndex() {
        edges.terms("If several exceptions apply");
        dueFirst("insertRow(13) of 12", Edges.INDEX, grid -> grid.insertRow(13));
        dueFirst("insertRow(-1) of 12", Edges.INDEX, grid -> grid.insertRow(-1));
        dueFirst("insertColumn(11) of 10", Edges.INDEX, grid -> grid.insertColumn(11));
        dueFirst("insertColumn(-1) of 10", Edges.INDEX, grid -> grid.insertColumn(-1));
        dueFirst("moveRow(12, 12)", Edges.INDEX, grid -> grid.moveRow(12, 12));
        dueFirst("moveRow(-1, -1)", Edges.INDEX, grid -> grid.moveRow(-1, -1));
        dueFirst("moveRow(1, 12) of a tall cell", Edges.INDEX, grid -> grid.moveRow(1, 12));
        dueFirst("moveRow(-1, 6) out of the header", Edges.INDEX, grid -> grid.moveRow(-1, 6));
        dueFirst("setContent(12, 0, 1000)", Edges.INDEX, grid -> grid.setContent(12, 0, 1000));
        dueFirst("setContent(0, -1, -1)", Edges.INDEX, grid -> grid.setContent(0, -1, -1));
        dueFirst("split(12, 0, 'x')", Edges.INDEX, grid -> grid.split(12, 0, 'x'));
        dueFirst("paste(0, 10, 0, 5)", Edges.INDEX, grid -> grid.paste(0, 10, 0, 5));
        dueFirst("paste(-1, 0, 1, 1)", Edges.INDEX, grid -> grid.paste(-1, 0, 1, 1));
        dueFirst("sort(-1, true) of tall cells", Edges.INDEX, grid -> grid.sort(-1, true));
        dueFirst("setWidth(10, 9)", Edges.INDEX, grid -> grid.setWidth(10, 9));
        dueFirst("setHeight(-1, 101)", Edges.INDEX, grid -> grid.setHeight(-1, 101));
        dueFirst("drag(9, 200)", Edges.INDEX, grid -> grid.drag(9, 200));
        dueFirst("drag(-1, -200)", Edges.INDEX, grid -> grid.drag(-1, -200));
        dueFirst("even(10, 10)", Edges.INDEX, grid -> grid.even(10, 10));
        dueFirst("even(10, 0)", Edges.INDEX, grid -> grid.even(10, 0));
        dueFirst("even(0, -1)", Edges.INDEX, grid -> grid.even(0, -1));
        edges.dueThrow("deleteRow(1) of 1", ExceptionsEdges::emptiest, Edges.INDEX, grid -> grid.deleteRow(1));
        edges.dueThrow("deleteRow(-1) of 1", ExceptionsEdges::emptiest, Edges.INDEX, grid -> grid.deleteRow(-1));
        edges.dueThrow("deleteColumn(1) of 1", ExceptionsEdges::emptiest, Edges.INDEX, grid -> grid.deleteColumn(1));
        edges.dueThrow("deleteColumn(-1) of 1", ExceptionsEdges::emptiest, Edges.INDEX, grid -> grid.deleteColumn(-1));
        edges.dueThrow("paste(1, 0, 5, 5) of nothing", ExceptionsEdges::emptiest, Edges.INDEX,
                grid -> grid.paste(1, 0, 5, 5));
    }

    private void firstListedOthers() {
        dueFirst("moveRow(1, 1) of a tall cell", Edges.ARGUMENT, grid -> grid.moveRow(1, 1));
        dueFirst("split(0, 0, 'x') of one square", Edges.ARGUMENT, grid -> grid.split(0, 0, 'x'));
        dueFirst("paste(11, 9, 5, 1) beyond the table", Edges.ARGUMENT, grid -> grid.paste(11, 9, 5, 1));
        dueFirst("paste(1, 2, 1, 0) on a part of a cell", Edges.ARGUMENT, grid -> grid.paste(1, 2, 1, 0));
        dueFirst("paste(8, 8, 3, 1) beyond the table, on a part of a cell", Edges.STATE, grid -> grid.paste(8, 8, 3, 1));
        dueFirst("paste(5, 8, 1, 2) beyond the table, across the header", Edges.STATE, grid -> grid.paste(5, 8, 1, 2));
        edges.dueThrow("paste(0, 0, 5, 1) of nothing", ExceptionsEdges::emptiest, Edges.ARGUMENT,
                grid -> grid.paste(0, 0, 5, 1));
        edges.dueThrow("paste(1, 1, 1, 1) of nothing on a part of a cell",
                () -> Line.ROW.withCell(Grids.greatest(), 0, 0, 11, 9), Edges.STATE, grid -> grid.paste(1, 1, 1, 1));
    }
}
