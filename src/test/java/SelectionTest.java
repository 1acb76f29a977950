/** Promises 17 to 22, 25, 40 and 41: contents and styles, and what is selected. */
public final class SelectionTest {
    private static final Class<IndexOutOfBoundsException> INDEX = IndexOutOfBoundsException.class;
    private static final Class<IllegalStateException> STATE = IllegalStateException.class;
    private static final Class<IllegalArgumentException> ARGUMENT = IllegalArgumentException.class;
    private static final Class<ArithmeticException> ARITHMETIC = ArithmeticException.class;
    private static final Answers ANSWERS = new Answers("SelectionTest");

    private SelectionTest() {
    }

    public static void main(String[] args) {
        promise17SetContent();
        promise18SetStyle();
        promises19And22Rectangle();
        promises19And22Growth();
        promises19And22OneSide();
        promises19And22Exceptions();
        promise20Selected();
        promise21SelectedCells();
        promise25Clear();
        promise40Sum();
        promise41Mean();
        selectionStays();
        ANSWERS.end();
    }

    private static void promise17SetContent() {
        MergeGrid grid = Grids.merged(new MergeGrid(), 1, 1, 2, 2);
        ANSWERS.due("setContent(2, 2, 999)", grid.setContent(2, 2, 999), 0);
        ANSWERS.due("contentAt(1, 1)", grid.contentAt(1, 1), 999);
        ANSWERS.due("setContent(1, 2, 0)", grid.setContent(1, 2, 0), 999);
        ANSWERS.due("setContent(1, 1, 1)", grid.setContent(1, 1, 1), 0);
        ANSWERS.due("setContent(1, 1, 1) again", grid.setContent(1, 1, 1), 1);
        ANSWERS.due("no other cell", grid.contentAt(0, 0), 0);
        ANSWERS.dueThrow("content -1", grid, ARGUMENT, () -> grid.setContent(0, 0, -1));
        ANSWERS.dueThrow("content 1000", grid, ARGUMENT, () -> grid.setContent(0, 0, 1000));
        ANSWERS.dueThrow("row 4", grid, INDEX, () -> grid.setContent(4, 0, 1));
        ANSWERS.dueThrow("column -1", grid, INDEX, () -> grid.setContent(0, -1, 1));
        ANSWERS.dueThrow("column 4 and content 1000", grid, INDEX, () -> grid.setContent(0, 4, 1000));
        ANSWERS.dueThrow("row -1 and content -1", grid, INDEX, () -> grid.setContent(-1, 0, -1));
    }

    private static void promise18SetStyle() {
        MergeGrid grid = Grids.merged(new MergeGrid(), 1, 1, 2, 2);
        ANSWERS.due("setStyle(9) at first", grid.setStyle(9), 1);
        grid.select(0, 0, 1, 1);
        ANSWERS.due("setStyle(9) of 6, one of which has it", grid.setStyle(9), 5);
        ANSWERS.due("setStyle(9) again", grid.setStyle(9), 0);
        ANSWERS.due("the merged cell", grid.styleAt(2, 2), 9);
        ANSWERS.due("outside", grid.styleAt(3, 2), 0);
        ANSWERS.due("beside", grid.styleAt(1, 3), 0);
        ANSWERS.due("setStyle(0)", grid.setStyle(0), 6);
        ANSWERS.dueThrow("style -1", grid, ARGUMENT, () -> grid.setStyle(-1));
        ANSWERS.dueThrow("style 10", grid, ARGUMENT, () -> grid.setStyle(10));
    }

    private static void dueSquares(MergeGrid grid, int[] from, int[] to, int want, String selected) {
        String call = "(" + from[0] + ", " + from[1] + ", " + to[0] + ", " + to[1] + ")";
        String before = Look.at(grid);
        ANSWERS.due("squaresFor" + call, grid.squaresFor(from[0], from[1], to[0], to[1]), want);
        ANSWERS.due("squaresFor" + call + " selects nothing", Look.at(grid), before);
        ANSWERS.due("select" + call, grid.select(from[0], from[1], to[0], to[1]), want);
        ANSWERS.due("the selection then", Look.selection(grid), selected);
    }

    private static int[] at(int row, int column) {
        return new int[] {row, column};
    }

    private static void promises19And22Rectangle() {
        MergeGrid grid = new MergeGrid();
        dueSquares(grid, at(1, 2), at(1, 2), 1, "12..12 of 1 with 0");
        dueSquares(grid, at(0, 1), at(2, 3), 9, "01..23 of 9 with 0");
        dueSquares(grid, at(2, 3), at(0, 1), 9, "01..23 of 9 with 0");
        dueSquares(grid, at(3, 0), at(1, 1), 6, "10..31 of 6 with 0");
        dueSquares(grid, at(1, 1), at(3, 0), 6, "10..31 of 6 with 0");
        dueSquares(grid, at(0, 0), at(3, 3), 16, "00..33 of 16 with 0");
        dueSquares(Grids.greatest(), at(11, 9), at(0, 0), 120, "00..119 of 120 with 0");
    }

    /** A stair: each cell takes the next one in, so that two squares select nearly all. */
    private static void promises19And22Growth() {
        MergeGrid grid = Grids.greatest();
        for (int i = 0; i + 1 < 10; i++) {
            if (i % 2 == 0) {
                Grids.merged(grid, i, i, i, i + 1);
            }
        }
        dueSquares(grid, at(0, 0), at(0, 0), 2, "00..01 of 1 with 0");
        dueSquares(grid, at(0, 1), at(2, 2), 12, "00..23 of 10 with 0");
        Grids.merged(grid, 1, 1, 2, 1);
        Grids.merged(grid, 1, 2, 1, 3);
        dueSquares(grid, at(1, 1), at(1, 2), 6, "11..23 of 3 with 0");
        MergeGrid stair = Grids.stair();
        dueSquares(stair, at(0, 0), at(0, 0), 2, "00..01 of 1 with 0");
        dueSquares(stair, at(1, 0), at(1, 1), 100, "10..109 of 83 with 0");
        dueSquares(stair, at(9, 8), at(8, 8), 6, "88..109 of 4 with 0");
        dueSquares(stair, at(11, 3), at(11, 9), 7, "113..119 of 7 with 0");
        MergeGrid inside = Grids.merged(new MergeGrid(), 0, 0, 3, 3);
        dueSquares(inside, at(1, 1), at(2, 2), 16, "00..33 of 1 with 0");
    }

    /** A cell that crosses the middle of one side alone, away from the corners. */
    private static void promises19And22OneSide() {
        MergeGrid left = Grids.merged(new MergeGrid(), 1, 0, 1, 1);
        dueSquares(left, at(0, 1), at(2, 2), 9, "00..22 of 8 with 0");
        MergeGrid right = Grids.merged(new MergeGrid(), 1, 2, 1, 3);
        dueSquares(right, at(0, 1), at(2, 2), 9, "01..23 of 8 with 0");
        MergeGrid top = Grids.merged(new MergeGrid(), 0, 1, 1, 1);
        dueSquares(top, at(1, 0), at(2, 2), 9, "00..22 of 8 with 0");
        MergeGrid bottom = Grids.merged(new MergeGrid(), 2, 1, 3, 1);
        dueSquares(bottom, at(1, 0), at(2, 2), 9, "10..32 of 8 with 0");
        MergeGrid within = Grids.merged(new MergeGrid(), 1, 1, 2, 2);
        dueSquares(within, at(0, 0), at(3, 3), 16, "00..33 of 13 with 0");
    }

    private static void promises19And22Exceptions() {
        MergeGrid grid = new MergeGrid();
        grid.insertColumn(0);
        grid.select(1, 1, 2, 2);
        int[][] wrong = {{-1, 0, 0, 0}, {0, -1, 0, 0}, {0, 0, -1, 0}, {0, 0, 0, -1},
            {4, 0, 0, 0}, {0, 5, 0, 0}, {0, 0, 4, 0}, {0, 0, 0, 5}, {4, 5, 4, 5}};
        for (int[] w : wrong) {
            String call = "(" + w[0] + ", " + w[1] + ", " + w[2] + ", " + w[3] + ")";
            ANSWERS.dueThrow("select" + call, grid, INDEX, () -> grid.select(w[0], w[1], w[2], w[3]));
            ANSWERS.dueThrow("squaresFor" + call, grid, INDEX, () -> grid.squaresFor(w[0], w[1], w[2], w[3]));
        }
    }

    private static void promise20Selected() {
        MergeGrid grid = new MergeGrid();
        grid.select(3, 0, 1, 2);
        ANSWERS.due("selected('t')", grid.selected('t'), 1);
        ANSWERS.due("selected('b')", grid.selected('b'), 3);
        ANSWERS.due("selected('l')", grid.selected('l'), 0);
        ANSWERS.due("selected('r')", grid.selected('r'), 2);
        for (char side : new char[] {'T', 'B', 'L', 'R', 'x', ' ', (char) 0, (char) 65535}) {
            ANSWERS.dueThrow("selected(" + (int) side + ")", grid, ARGUMENT, () -> grid.selected(side));
        }
    }

    private static void promise21SelectedCells() {
        MergeGrid grid = Grids.merged(new MergeGrid(), 1, 1, 2, 2);
        ANSWERS.due("selectedCells() at first", grid.selectedCells(), 1);
        grid.select(1, 1, 1, 1);
        ANSWERS.due("selectedCells() of the merged cell", grid.selectedCells(), 1);
        grid.select(0, 0, 1, 1);
        ANSWERS.due("selectedCells() of nine squares", grid.selectedCells(), 6);
        grid.select(0, 0, 3, 3);
        ANSWERS.due("selectedCells() of all", grid.selectedCells(), 13);
    }

    private static void promise25Clear() {
        MergeGrid grid = Grids.numbered();
        grid.setContent(1, 1, 0);
        grid.select(1, 1, 2, 2);
        ANSWERS.due("clear()", grid.clear(), 3);
        ANSWERS.due("column 1", Grids.contents(grid, 1), "2 0 0 14");
        ANSWERS.due("column 2", Grids.contents(grid, 2), "3 0 0 15");
        ANSWERS.due("column 3", Grids.contents(grid, 3), "4 8 12 16");
        ANSWERS.due("the style stays", grid.styleAt(2, 2), 2);
        ANSWERS.due("the selection stays", Look.selection(grid), "11..22 of 4 with 0");
        ANSWERS.dueThrow("clear() of empty cells", grid, STATE, grid::clear);
        MergeGrid fresh = new MergeGrid();
        ANSWERS.dueThrow("clear() at first", fresh, STATE, fresh::clear);
    }

    private static void promise40Sum() {
        MergeGrid grid = Grids.numbered();
        ANSWERS.due("sum() of the first square", grid.sum(), 1L);
        grid.select(1, 1, 2, 2);
        ANSWERS.due("sum() of four", grid.sum(), 34L);
        grid.select(0, 0, 3, 3);
        ANSWERS.due("sum() of all", grid.sum(), 136L);
        grid.clear();
        ANSWERS.due("sum() of empty cells", grid.sum(), 0L);
        Grids.merged(grid, 0, 0, 1, 1).setContent(0, 0, 40);
        grid.select(1, 1, 2, 2);
        ANSWERS.due("sum() with a merged cell", grid.sum(), 40L);
        MergeGrid most = Grids.greatest();
        for (int i = 0; i < 120; i++) {
            most.setContent(i / 10, i % 10, 999);
        }
        most.select(0, 0, 11, 9);
        ANSWERS.due("sum() at most", most.sum(), 119880L);
    }

    private static void promise41Mean() {
        MergeGrid grid = new MergeGrid();
        ANSWERS.dueThrow("mean() at first", grid, ARITHMETIC, grid::mean);
        grid.select(0, 0, 1, 2);
        grid.setContent(0, 0, 1);
        grid.setContent(1, 1, 2);
        grid.setContent(1, 2, 2);
        grid.setContent(2, 0, 999);
        ANSWERS.due("mean() of three", grid.mean(), 5.0 / 3.0);
        grid.setContent(1, 2, 0);
        ANSWERS.due("mean() of two", grid.mean(), 1.5);
        grid.clear();
        ANSWERS.dueThrow("mean() of empty cells", grid, ARITHMETIC, grid::mean);
    }

    /** The document names the changes that select the first square; all others leave what is selected. */
    private static void selectionStays() {
        MergeGrid grid = new MergeGrid();
        grid.select(1, 1, 2, 2);
        grid.setContent(1, 1, 5);
        grid.setStyle(3);
        grid.setHeader(1);
        grid.setWidth(0, 70);
        grid.setHeight(0, 70);
        grid.drag(0, 5);
        grid.even(0, 3);
        grid.copy();
        grid.merge();
        ANSWERS.due("the selection", Look.selection(grid), "11..22 of 1 with 5");
    }
}
