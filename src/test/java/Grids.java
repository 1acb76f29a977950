/** Grids that several tests begin with. */
final class Grids {
    private Grids() {
    }

    static MergeGrid merged(MergeGrid grid, int row, int column, int otherRow, int otherColumn) {
        grid.select(row, column, otherRow, otherColumn);
        grid.merge();
        grid.select(0, 0, 0, 0);
        return grid;
    }

    /** The contents 1, 2, 3 .. by rows, with a style that tells the row. */
    static MergeGrid numbered() {
        MergeGrid grid = new MergeGrid();
        for (int row = 0; row < 4; row++) {
            grid.select(row, 0, row, 3);
            grid.setStyle(row);
            for (int column = 0; column < 4; column++) {
                grid.setContent(row, column, row * 4 + column + 1);
            }
        }
        grid.select(0, 0, 0, 0);
        return grid;
    }

    /** The greatest table, 12 rows and 10 columns. */
    static MergeGrid greatest() {
        return sized(12, 10);
    }

    /** The least table, of one square. */
    static MergeGrid least() {
        return sized(1, 1);
    }

    /** An empty table with so many rows and columns. */
    static MergeGrid sized(int rows, int columns) {
        MergeGrid grid = new MergeGrid();
        while (grid.rows() < rows) {
            grid.insertRow(grid.rows());
        }
        while (grid.rows() > rows) {
            grid.deleteRow(0);
        }
        while (grid.columns() < columns) {
            grid.insertColumn(grid.columns());
        }
        while (grid.columns() > columns) {
            grid.deleteColumn(0);
        }
        return grid;
    }

    /**
     * A table where each square is a cell of its own and nothing is as at first: contents 1, 2, 3 .. by rows,
     * the row's number and 1 more as the style (up to 9), sizes, a header, a copy, a selection and a last change.
     */
    static MergeGrid used(int rows, int columns) {
        MergeGrid grid = sized(rows, columns);
        for (int row = 0; row < rows; row++) {
            grid.select(row, 0, row, columns - 1);
            grid.setStyle(Math.min(row + 1, 9));
            for (int column = 0; column < columns; column++) {
                grid.setContent(row, column, row * columns + column + 1);
            }
            grid.setHeight(row, 21 + row);
        }
        for (int column = 0; column < columns; column++) {
            grid.setWidth(column, 51 + column);
        }
        grid.copy();
        grid.setHeader(rows / 2);
        grid.setContent(rows - 1, columns - 1, 500);
        return grid;
    }

    /** Wide and tall cells in turn, each reaching over the border of the one before, from the first corner on. */
    static MergeGrid stair() {
        MergeGrid stair = greatest();
        for (int i = 0; i < 9; i++) {
            stair.select(i + 1, i, i + 2, i);
            stair.merge();
            stair.select(i, i, i, i + 1);
            stair.merge();
        }
        return stair;
    }

    /** The contents of a column from above, as a text. */
    static String contents(MergeGrid grid, int column) {
        StringBuilder text = new StringBuilder();
        for (int row = 0; row < grid.rows(); row++) {
            text.append(row == 0 ? "" : " ").append(grid.contentAt(row, column));
        }
        return text.toString();
    }

    static String heights(MergeGrid grid) {
        StringBuilder text = new StringBuilder();
        for (int row = 0; row < grid.rows(); row++) {
            text.append(row == 0 ? "" : " ").append(grid.heightOf(row));
        }
        return text.toString();
    }

    static String widths(MergeGrid grid) {
        StringBuilder text = new StringBuilder();
        for (int column = 0; column < grid.columns(); column++) {
            text.append(column == 0 ? "" : " ").append(grid.widthOf(column));
        }
        return text.toString();
    }
}
