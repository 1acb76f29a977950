/** Promises 1 to 5, 11 to 16, 42 and 43: what a table has, and what its squares tell. */
public final class SquaresTest {
    private static final Class<IndexOutOfBoundsException> INDEX = IndexOutOfBoundsException.class;
    private static final Answers ANSWERS = new Answers("SquaresTest");

    private SquaresTest() {
    }

    public static void main(String[] args) {
        promise1NewObject();
        promises2And3RowsAndColumns();
        promises4And5Cells();
        promises11To16Squares();
        promises11To16NoSuchSquare();
        promise42MergedShare();
        promise43IsTiled();
        ANSWERS.end();
    }

    private static void promise1NewObject() {
        MergeGrid grid = new MergeGrid();
        StringBuilder want = new StringBuilder("4x4 header 0 cells 16 16 merged 0.0 tiled true\n w50 w50 w50 w50");
        for (int row = 0; row < 4; row++) {
            want.append("\nh20");
            for (int column = 0; column < 4; column++) {
                want.append(" | ").append(row).append(',').append(column).append("+1x1:0/0");
            }
        }
        ANSWERS.due("a new object", Look.at(grid), want + "\n00..00 of 1 with 0");
        MergeGrid other = new MergeGrid();
        other.setContent(0, 0, 5);
        ANSWERS.due("another object is on its own", grid.contentAt(0, 0), 0);
    }

    private static void promises2And3RowsAndColumns() {
        MergeGrid grid = new MergeGrid();
        ANSWERS.due("rows()", grid.rows(), 4);
        ANSWERS.due("columns()", grid.columns(), 4);
        grid.insertRow(0);
        grid.insertRow(0);
        grid.deleteColumn(0);
        ANSWERS.due("rows() after two came", grid.rows(), 6);
        ANSWERS.due("columns() after one went", grid.columns(), 3);
        MergeGrid greatest = Grids.greatest();
        ANSWERS.due("rows() at most", greatest.rows(), 12);
        ANSWERS.due("columns() at most", greatest.columns(), 10);
        MergeGrid least = Grids.least();
        ANSWERS.due("rows() at least", least.rows(), 1);
        ANSWERS.due("columns() at least", least.columns(), 1);
    }

    private static void dueCells(String when, MergeGrid grid, int want) {
        ANSWERS.due("cellCount() " + when, grid.cellCount(), want);
        ANSWERS.due("cellsBySquares() " + when, grid.cellsBySquares(), want);
    }

    private static void promises4And5Cells() {
        dueCells("at first", new MergeGrid(), 16);
        dueCells("of the greatest table", Grids.greatest(), 120);
        dueCells("of the least table", Grids.least(), 1);
        MergeGrid grid = Grids.merged(new MergeGrid(), 1, 1, 2, 3);
        dueCells("after a merge", grid, 11);
        grid.split(1, 1, 'r');
        dueCells("after a split", grid, 12);
        dueCells("of one cell alone", Grids.merged(new MergeGrid(), 0, 0, 3, 3), 1);
        MergeGrid wide = Grids.merged(Grids.greatest(), 0, 0, 11, 9);
        dueCells("of one cell that is as great as can be", wide, 1);
        wide.split(11, 9, 's');
        dueCells("after it was split", wide, 120);
    }

    private static void promises11To16Squares() {
        MergeGrid grid = Grids.numbered();
        ANSWERS.due("square 2,3", Look.square(grid, 2, 3), "2,3+1x1:12/2");
        for (int row = 1; row <= 2; row++) {
            for (int column = 1; column <= 3; column++) {
                grid.setContent(row, column, 0);
            }
        }
        grid.setContent(2, 2, 77);
        Grids.merged(grid, 1, 1, 2, 3);
        for (int row = 1; row <= 2; row++) {
            for (int column = 1; column <= 3; column++) {
                ANSWERS.due("topOf", grid.topOf(row, column), 1);
                ANSWERS.due("leftOf", grid.leftOf(row, column), 1);
                ANSWERS.due("rowsOf", grid.rowsOf(row, column), 2);
                ANSWERS.due("columnsOf", grid.columnsOf(row, column), 3);
                ANSWERS.due("contentAt", grid.contentAt(row, column), 77);
                ANSWERS.due("styleAt", grid.styleAt(row, column), 1);
            }
        }
        ANSWERS.due("a square beside it", Look.square(grid, 2, 0), "2,0+1x1:9/2");
        ANSWERS.due("a square below it", Look.square(grid, 3, 3), "3,3+1x1:16/3");
    }

    private static void promises11To16NoSuchSquare() {
        int[][] wrong = {{-1, 0}, {0, -1}, {4, 0}, {0, 5}, {Integer.MIN_VALUE, 0}, {0, Integer.MAX_VALUE}, {5, 4}};
        MergeGrid grid = new MergeGrid();
        grid.insertColumn(0);
        for (int[] at : wrong) {
            String square = "(" + at[0] + ", " + at[1] + ")";
            ANSWERS.dueThrow("topOf" + square, grid, INDEX, () -> grid.topOf(at[0], at[1]));
            ANSWERS.dueThrow("leftOf" + square, grid, INDEX, () -> grid.leftOf(at[0], at[1]));
            ANSWERS.dueThrow("rowsOf" + square, grid, INDEX, () -> grid.rowsOf(at[0], at[1]));
            ANSWERS.dueThrow("columnsOf" + square, grid, INDEX, () -> grid.columnsOf(at[0], at[1]));
            ANSWERS.dueThrow("contentAt" + square, grid, INDEX, () -> grid.contentAt(at[0], at[1]));
            ANSWERS.dueThrow("styleAt" + square, grid, INDEX, () -> grid.styleAt(at[0], at[1]));
        }
        ANSWERS.due("the last square", Look.square(grid, 3, 4), "3,4+1x1:0/0");
    }

    private static void promise42MergedShare() {
        MergeGrid grid = new MergeGrid();
        ANSWERS.due("mergedShare() at first", grid.mergedShare(), 0f);
        grid.deleteColumn(0);
        Grids.merged(grid, 0, 0, 1, 1);
        ANSWERS.due("mergedShare() of 4 in 12", grid.mergedShare(), 4f / 12f);
        Grids.merged(grid, 3, 1, 3, 2);
        ANSWERS.due("mergedShare() of 4 and 2 in 12", grid.mergedShare(), 6f / 12f);
        Grids.merged(grid, 0, 0, 3, 2);
        ANSWERS.due("mergedShare() of all", grid.mergedShare(), 1f);
    }

    private static void promise43IsTiled() {
        MergeGrid grid = new MergeGrid();
        ANSWERS.due("isTiled() at first", grid.isTiled(), true);
        Grids.merged(grid, 1, 1, 2, 2);
        grid.insertRow(2);
        grid.insertColumn(2);
        grid.setHeader(1);
        grid.deleteRow(1);
        ANSWERS.due("isTiled() after many changes", grid.isTiled(), true);
        grid.takeBack();
        ANSWERS.due("isTiled() after one was taken back", grid.isTiled(), true);
        ANSWERS.due("isTiled() of the greatest table", Grids.greatest().isTiled(), true);
    }
}
