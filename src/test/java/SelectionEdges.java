import java.util.LinkedHashMap;
import java.util.Map;
import java.util.function.Supplier;

/** The sentences of promises 19 to 22, 25, 40 and 41: what is selected, emptied and summed up. */
final class SelectionEdges {
    private final Edges edges;

    SelectionEdges(Edges edges) {
        this.edges = edges;
    }

    private interface Spanning {
        int of(MergeGrid grid, int row, int column, int otherRow, int otherColumn);
    }

    void run() {
        spans(19, MergeGrid::select, "Selects the smallest rectangle", "Returns the number of squares that are selected");
        spans(22, MergeGrid::squaresFor, "Returns how many squares", "Returns the number of squares.");
        selectsWhatIsSelected();
        squaresForSelectsNothing();
        sides();
        noSuchSide();
        selectedCells();
        clears();
        clearsNothing();
        sums();
        means();
        meanOfNothing();
    }

    private void spans(int promise, Spanning span, String words, String answer) {
        edges.promise(promise, words);
        MergeGrid grid = Grids.greatest();
        edges.due("of one square", span.of(grid, 5, 5, 5, 5), 1);
        edges.due("of two beside one another", span.of(grid, 5, 5, 5, 6), 2);
        edges.due("of two below one another", span.of(grid, 6, 5, 5, 5), 2);
        edges.due("of two at a corner", span.of(grid, 6, 5, 5, 6), 4);
        dueGrowth(span);
        spanNumbers(promise, span);
        edges.promise(promise, answer);
        edges.due("of the only square", span.of(Grids.least(), 0, 0, 0, 0), 1);
        edges.due("of the greatest table", span.of(grid, 0, 0, 11, 9), 120);
        edges.due("of the greatest row", span.of(Grids.sized(1, 10), 0, 9, 0, 0), 10);
        edges.due("of the greatest column", span.of(Grids.sized(12, 1), 11, 0, 0, 0), 12);
        edges.due("of one cell by two of its squares", span.of(Grids.merged(grid, 0, 0, 11, 9), 3, 3, 4, 4), 120);
        edges.promise(promise, "Throws `IndexOutOfBoundsException`");
        noSuchSquares(span);
    }

    /** A cell that reaches over one border at one corner or in the middle; one that only touches it stays out. */
    private void dueGrowth(Spanning span) {
        int[][] cells = {{2, 3, 3, 3}, {2, 4, 3, 4}, {2, 5, 3, 5}, {5, 3, 6, 3}, {5, 4, 6, 4}, {5, 5, 6, 5},
            {3, 2, 3, 3}, {4, 2, 4, 3}, {5, 2, 5, 3}, {3, 5, 3, 6}, {4, 5, 4, 6}, {5, 5, 5, 6}};
        for (int[] cell : cells) {
            MergeGrid grid = Grids.merged(Grids.sized(9, 9), cell[0], cell[1], cell[2], cell[3]);
            edges.due("over a border at " + cell[0] + "," + cell[1], span.of(grid, 3, 3, 5, 5), 12);
        }
        int[][] beside = {{1, 3, 2, 5}, {6, 3, 7, 5}, {3, 1, 5, 2}, {3, 6, 5, 7}, {3, 3, 5, 5}, {4, 4, 5, 5}};
        for (int[] cell : beside) {
            MergeGrid grid = Grids.merged(Grids.sized(9, 9), cell[0], cell[1], cell[2], cell[3]);
            edges.due("up to a cell at " + cell[0] + "," + cell[1], span.of(grid, 3, 3, 5, 5), 9);
        }
        MergeGrid chain = Grids.merged(Grids.merged(Grids.sized(4, 4), 0, 2, 0, 3), 1, 1, 1, 2);
        edges.due("over a cell that reaches over none", span.of(chain, 0, 0, 1, 0), 2);
        edges.due("over one cell", span.of(chain, 1, 0, 1, 1), 3);
        edges.due("over one cell, and the next one by it", span.of(chain, 0, 0, 1, 1), 8);
    }

    private void spanNumbers(int promise, Spanning span) {
        MergeGrid grid = Grids.greatest();
        edges.promise(promise, "`row`: the row of a square");
        edges.due("the first row", span.of(grid, 0, 4, 6, 4), 7);
        edges.due("the last row", span.of(grid, 11, 4, 6, 4), 6);
        edges.promise(promise, "`column`: its column");
        edges.due("the first column", span.of(grid, 4, 0, 4, 6), 7);
        edges.due("the last column", span.of(grid, 4, 9, 4, 6), 4);
        edges.promise(promise, "`otherRow`: the row of another square, or the same one");
        edges.due("the first row", span.of(grid, 6, 4, 0, 4), 7);
        edges.due("the last row", span.of(grid, 6, 4, 11, 4), 6);
        edges.due("the same row", span.of(grid, 6, 4, 6, 4), 1);
        edges.promise(promise, "`otherColumn`: its column");
        edges.due("the first column", span.of(grid, 4, 6, 4, 0), 7);
        edges.due("the last column", span.of(grid, 4, 6, 4, 9), 4);
        edges.due("the same column", span.of(grid, 4, 6, 4, 6), 1);
    }

    private void noSuchSquares(Spanning span) {
        for (int[] size : Edges.TABLES) {
            for (int[] at : SquaresEdges.noSquares(size[0], size[1])) {
                String call = at[0] + "," + at[1] + " of " + size[0] + "x" + size[1];
                edges.dueThrow("from " + call, () -> Grids.used(size[0], size[1]), Edges.INDEX,
                        grid -> span.of(grid, at[0], at[1], 0, 0));
                edges.dueThrow("to " + call, () -> Grids.used(size[0], size[1]), Edges.INDEX,
                        grid -> span.of(grid, 0, 0, at[0], at[1]));
                edges.dueThrow("from and to " + call, () -> Grids.used(size[0], size[1]), Edges.INDEX,
                        grid -> span.of(grid, at[0], at[1], at[0], at[1]));
            }
        }
    }

    private void selectsWhatIsSelected() {
        edges.promise(19, "Selects the smallest rectangle");
        MergeGrid grid = Grids.merged(Grids.sized(5, 6), 2, 4, 3, 5);
        grid.select(2, 4, 1, 2);
        edges.due("what is selected then", Look.selection(grid), "12..35 of 9 with 0");
        grid.select(0, 0, 0, 0);
        edges.due("another one takes its place", Look.selection(grid), "00..00 of 1 with 0");
        grid.select(3, 5, 3, 5);
        edges.due("one square of a cell", Look.selection(grid), "24..35 of 1 with 0");
    }

    private void squaresForSelectsNothing() {
        edges.promise(22, "Returns how many squares");
        MergeGrid grid = Grids.used(12, 10);
        MergeGrid twin = Grids.used(12, 10);
        grid.squaresFor(0, 0, 11, 9);
        grid.squaresFor(3, 3, 3, 3);
        edges.dueTwin("squaresFor()", grid, twin);
    }

    private void dueSides(String when, MergeGrid grid, int top, int bottom, int left, int right) {
        edges.promise(20, "`side`: 't' for its lowest row");
        edges.due("'t' " + when, grid.selected('t'), top);
        edges.due("'b' " + when, grid.selected('b'), bottom);
        edges.due("'l' " + when, grid.selected('l'), left);
        edges.due("'r' " + when, grid.selected('r'), right);
        edges.promise(20, "Returns the row or the column.");
        edges.due("rows " + when, grid.selected('b') - grid.selected('t'), bottom - top);
        edges.due("columns " + when, grid.selected('r') - grid.selected('l'), right - left);
    }

    private void sides() {
        edges.promise(20, "Returns a border of the selection.");
        edges.due("of a new object", Look.selection(new MergeGrid()), "00..00 of 1 with 0");
        dueSides("of the only square", Grids.least(), 0, 0, 0, 0);
        MergeGrid grid = Grids.greatest();
        grid.select(11, 9, 11, 9);
        dueSides("of the last square", grid, 11, 11, 9, 9);
        grid.select(11, 0, 0, 9);
        dueSides("of all", grid, 0, 11, 0, 9);
        grid.select(3, 7, 9, 2);
        dueSides("of a part", grid, 3, 9, 2, 7);
        Grids.merged(grid, 2, 1, 10, 8);
        grid.select(5, 5, 5, 5);
        dueSides("of a great cell", grid, 2, 10, 1, 8);
    }

    private void noSuchSide() {
        edges.promise(20, "Throws `IllegalArgumentException`");
        edges.due("the sides that are some", Edges.charactersTaken(MergeGrid::new, MergeGrid::selected), "blrt");
        for (char side : new char[] {'T', 'a', 's', 'u', 'c', (char) 0, (char) 65535, (char) (256 + 't')}) {
            edges.dueThrow("the side " + (int) side, () -> Grids.used(4, 4), Edges.ARGUMENT,
                    grid -> grid.selected(side));
        }
    }

    private void selectedCells() {
        String[] both = {"Returns the number of cells that are selected.", "Returns the number of cells."};
        for (String words : both) {
            edges.promise(21, words);
            edges.due("of the only square", Grids.least().selectedCells(), 1);
            MergeGrid grid = Grids.greatest();
            grid.select(0, 0, 11, 9);
            edges.due("of the greatest table", grid.selectedCells(), 120);
            grid.merge();
            edges.due("of one great cell", grid.selectedCells(), 1);
            grid.split(0, 0, 'r');
            edges.due("of the first part of it", grid.selectedCells(), 1);
            grid.select(0, 0, 1, 0);
            edges.due("of two parts of it", grid.selectedCells(), 2);
            grid.select(11, 9, 0, 0);
            edges.due("of all parts of it", grid.selectedCells(), 12);
        }
    }

    private void clears() {
        edges.promise(25, "Empties all cells that are selected.");
        MergeGrid grid = Grids.used(4, 4);
        grid.select(1, 1, 2, 2);
        grid.clear();
        edges.due("column 0", Grids.contents(grid, 0), "1 5 9 13");
        edges.due("column 1", Grids.contents(grid, 1), "2 0 0 14");
        edges.due("column 2", Grids.contents(grid, 2), "3 0 0 15");
        edges.due("column 3", Grids.contents(grid, 3), "4 8 12 500");
        edges.promise(25, "Returns the number of cells that were not empty.");
        MergeGrid greatest = Grids.used(12, 10);
        greatest.select(0, 0, 11, 9);
        edges.due("of the greatest table", greatest.clear(), 120);
        greatest.setContent(11, 9, 1);
        edges.due("of one among empty ones", greatest.clear(), 1);
        greatest.setContent(0, 0, 999);
        greatest.setContent(11, 9, 999);
        edges.due("of two among empty ones", greatest.clear(), 2);
        edges.due("of the only square", Grids.used(1, 1).clear(), 1);
    }

    /** Tables where all cells that are selected are empty. */
    private static Map<String, Supplier<MergeGrid>> empties() {
        Map<String, Supplier<MergeGrid>> empties = new LinkedHashMap<>();
        empties.put("of a new object", MergeGrid::new);
        empties.put("of the least table", Grids::least);
        empties.put("of the greatest table", () -> {
            MergeGrid grid = Grids.greatest();
            grid.select(0, 0, 11, 9);
            return grid;
        });
        empties.put("of cells that were emptied", () -> {
            MergeGrid grid = Grids.used(4, 4);
            grid.clear();
            return grid;
        });
        empties.put("of the only empty cell among filled ones", () -> {
            MergeGrid grid = Grids.used(4, 4);
            grid.setContent(1, 1, 0);
            grid.select(1, 1, 1, 1);
            return grid;
        });
        return empties;
    }

    private void clearsNothing() {
        edges.promise(25, "Throws `IllegalStateException`");
        for (Map.Entry<String, Supplier<MergeGrid>> empty : empties().entrySet()) {
            edges.dueThrow(empty.getKey(), empty.getValue(), Edges.STATE, MergeGrid::clear);
        }
    }

    private void sums() {
        for (String words : new String[] {"Returns the sum of the contents of all", "Returns the sum."}) {
            edges.promise(40, words);
            edges.due("of nothing filled", new MergeGrid().sum(), 0L);
            MergeGrid grid = Grids.greatest();
            for (int i = 0; i < 120; i++) {
                grid.setContent(i / 10, i % 10, 999);
            }
            edges.due("of one square", grid.sum(), 999L);
            grid.select(0, 0, 11, 9);
            edges.due("of the greatest table", grid.sum(), 119880L);
            grid.setContent(11, 9, 0);
            edges.due("with an empty one", grid.sum(), 118881L);
            MergeGrid great = Grids.merged(Grids.greatest(), 0, 0, 11, 9);
            great.setContent(11, 9, 999);
            great.select(4, 4, 4, 4);
            edges.due("of a great cell", great.sum(), 999L);
        }
    }

    private void means() {
        edges.promise(41, "Returns the mean content");
        MergeGrid grid = Grids.greatest();
        grid.select(0, 0, 11, 9);
        grid.setContent(11, 9, 1);
        edges.due("of one that is filled among 120", grid.mean(), 1.0);
        grid.setContent(0, 0, 999);
        edges.due("of two that are filled", grid.mean(), 500.0);
        grid.select(0, 0, 1, 1);
        edges.due("of those that are selected alone", grid.mean(), 999.0);
        edges.promise(41, "Returns the sum of their contents divided");
        MergeGrid three = Grids.sized(1, 3);
        three.select(0, 0, 0, 2);
        three.setContent(0, 0, 1);
        three.setContent(0, 1, 1);
        three.setContent(0, 2, 2);
        edges.due("the double that is nearest to four thirds", three.mean(), 1.3333333333333333);
        MergeGrid all = Grids.used(12, 10);
        all.setContent(11, 9, 120);
        all.select(0, 0, 11, 9);
        edges.due("of 1 to 120", all.mean(), 60.5);
        MergeGrid great = Grids.merged(Grids.sized(2, 3), 0, 0, 1, 1);
        great.setContent(0, 0, 4);
        great.setContent(0, 2, 1);
        great.select(0, 0, 1, 2);
        edges.due("of a great cell, which counts once", great.mean(), 2.5);
    }

    private void meanOfNothing() {
        edges.promise(41, "Throws `ArithmeticException`");
        for (Map.Entry<String, Supplier<MergeGrid>> empty : empties().entrySet()) {
            edges.dueThrow(empty.getKey(), empty.getValue(), ArithmeticException.class, MergeGrid::mean);
        }
    }
}
