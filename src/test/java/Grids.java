/** Grids that several tests begin with. */
final class Grids {
    private Grids() {
    }

    static MergeGrid merged(MergeGrid grid, int row, int column, int otherRow, int otherColumn) {
        grid.select(row, column, otherRow, otherColumn);
        grid.merge();
        grid.select(0, 0, 0, 0);
        return grid;
    }

    /** The contents 1, 2, 3 .. by rows, with a style that tells the row. */
    static MergeGrid numbered() {
        MergeGrid grid = new MergeGrid();
        for (int row = 0; row < 4; row++) {
            grid.select(row, 0, row, 3);
            grid.setStyle(row);
            for (int column = 0; column < 4; column++) {
                grid.setContent(row, column, row * 4 + column + 1);
            }
        }
        grid.select(0, 0, 0, 0);
        return grid;
    }

    /** The greatest table, 12 rows and 10 columns. */
    static MergeGrid greatest() {
        MergeGrid grid = new MergeGrid();
        while (grid.rows() < 12) {
            grid.insertRow(grid.rows());
        }
        while (grid.columns() < 10) {
            grid.insertColumn(grid.columns());
        }
        return grid;
    }

    /** The contents of a column from above, as a text. */
    static String contents(MergeGrid grid, int column) {
        StringBuilder text = new StringBuilder();
        for (int row = 0; row < grid.rows(); row++) {
            text.append(row == 0 ? "" : " ").append(grid.contentAt(row, column));
        }
        return text.toString();
    }

    static String heights(MergeGrid grid) {
        StringBuilder text = new StringBuilder();
        for (int row = 0; row < grid.rows(); row++) {
            text.append(row == 0 ? "" : " ").append(grid.heightOf(row));
        }
        return text.toString();
    }

    static String widths(MergeGrid grid) {
        StringBuilder text = new StringBuilder();
        for (int column = 0; column < grid.columns(); column++) {
            text.append(column == 0 ? "" : " ").append(grid.widthOf(column));
        }
        return text.toString();
    }
}
