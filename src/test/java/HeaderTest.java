/** Promises 28 to 30: the header, and the body that is sorted below it. */
public final class HeaderTest {
    private static final Class<IndexOutOfBoundsException> INDEX = IndexOutOfBoundsException.class;
    private static final Class<IllegalArgumentException> ARGUMENT = IllegalArgumentException.class;
    private static final Class<UnsupportedOperationException> UNSUPPORTED = UnsupportedOperationException.class;
    private static final Answers ANSWERS = new Answers("HeaderTest");

    private HeaderTest() {
    }

    public static void main(String[] args) {
        promises28And29Header();
        promise28Exceptions();
        promise30Sort();
        promise30Stable();
        promise30WideCells();
        promise30Header();
        promise30Exceptions();
        ANSWERS.end();
    }

    private static void promises28And29Header() {
        MergeGrid grid = new MergeGrid();
        ANSWERS.due("header() at first", grid.header(), 0);
        ANSWERS.due("setHeader(2)", grid.setHeader(2), 0);
        ANSWERS.due("header()", grid.header(), 2);
        ANSWERS.due("setHeader(4)", grid.setHeader(4), 2);
        ANSWERS.due("setHeader(4) again", grid.setHeader(4), 4);
        ANSWERS.due("setHeader(0)", grid.setHeader(0), 4);
        ANSWERS.due("header() in the end", grid.header(), 0);
    }

    private static void promise28Exceptions() {
        MergeGrid grid = Grids.merged(new MergeGrid(), 1, 1, 3, 2);
        ANSWERS.dueThrow("setHeader(-1)", grid, ARGUMENT, () -> grid.setHeader(-1));
        ANSWERS.dueThrow("setHeader(5)", grid, ARGUMENT, () -> grid.setHeader(5));
        ANSWERS.dueThrow("setHeader(2)", grid, UNSUPPORTED, () -> grid.setHeader(2));
        ANSWERS.dueThrow("setHeader(3)", grid, UNSUPPORTED, () -> grid.setHeader(3));
        ANSWERS.due("setHeader(1)", grid.setHeader(1), 0);
        ANSWERS.due("setHeader(4)", grid.setHeader(4), 1);
    }

    /** A table of one column's contents; the second column tells where a row was at first. */
    private static MergeGrid listed(int... contents) {
        MergeGrid grid = new MergeGrid();
        while (grid.rows() < contents.length) {
            grid.insertRow(0);
        }
        for (int row = 0; row < contents.length; row++) {
            grid.setContent(row, 0, contents[row]);
            grid.setContent(row, 1, row + 1);
            grid.setHeight(row, 10 + row);
        }
        return grid;
    }

    private static void promise30Sort() {
        MergeGrid grid = listed(30, 10, 0, 20);
        ANSWERS.due("sort(0, true)", grid.sort(0, true), 3);
        ANSWERS.due("column 0", Grids.contents(grid, 0), "0 10 20 30");
        ANSWERS.due("column 1", Grids.contents(grid, 1), "3 2 4 1");
        ANSWERS.due("heights", Grids.heights(grid), "12 11 13 10");
        ANSWERS.due("sort(0, true) again", grid.sort(0, true), 0);
        ANSWERS.due("sort(0, false)", grid.sort(0, false), 4);
        ANSWERS.due("column 0 then", Grids.contents(grid, 0), "30 20 10 0");
        ANSWERS.due("heights then", Grids.heights(grid), "10 13 11 12");
        grid.select(1, 1, 2, 2);
        ANSWERS.due("sort(3, true) of equal rows", grid.sort(3, true), 0);
        ANSWERS.due("the selection is the first square", Look.selection(grid), "00..00 of 1 with 30");
        ANSWERS.due("sort(1, true)", grid.sort(1, true), 3);
        ANSWERS.due("column 0 in the end", Grids.contents(grid, 0), "30 10 0 20");
        MergeGrid most = listed(5, 4, 5, 4, 5, 4, 5, 4, 5, 4, 5, 4);
        ANSWERS.due("sort(0, true) of 12 rows", most.sort(0, true), 12);
        ANSWERS.due("column 1 of 12 rows", Grids.contents(most, 1), "2 4 6 8 10 12 1 3 5 7 9 11");
    }

    private static void promise30Stable() {
        MergeGrid grid = listed(2, 1, 2, 1, 2);
        ANSWERS.due("sort(0, false)", grid.sort(0, false), 4);
        ANSWERS.due("column 1", Grids.contents(grid, 1), "1 3 5 2 4");
        ANSWERS.due("sort(0, true)", grid.sort(0, true), 5);
        ANSWERS.due("column 1 then", Grids.contents(grid, 1), "2 4 1 3 5");
    }

    private static void promise30WideCells() {
        MergeGrid grid = listed(30, 10, 20, 5);
        grid.setContent(1, 1, 0);
        Grids.merged(grid, 1, 0, 1, 1);
        grid.setContent(0, 1, 15);
        grid.setContent(2, 1, 1);
        grid.setContent(3, 1, 7);
        ANSWERS.due("sort(1, true) where a cell covers the column from beside it", grid.sort(1, true), 4);
        ANSWERS.due("column 0", Grids.contents(grid, 0), "20 5 10 30");
        ANSWERS.due("column 1", Grids.contents(grid, 1), "1 7 10 15");
        ANSWERS.due("the wide cell", Look.square(grid, 2, 1), "2,0+1x2:10/0");
        ANSWERS.due("a single one", Look.square(grid, 3, 1), "3,1+1x1:15/0");
    }

    private static void promise30Header() {
        MergeGrid grid = listed(50, 40, 30, 20, 10);
        Grids.merged(grid, 0, 2, 1, 3);
        grid.setHeader(2);
        ANSWERS.due("sort(0, true) below the header", grid.sort(0, true), 2);
        ANSWERS.due("column 0", Grids.contents(grid, 0), "50 40 10 20 30");
        ANSWERS.due("heights", Grids.heights(grid), "10 11 14 13 12");
        ANSWERS.due("header()", grid.header(), 2);
        ANSWERS.due("the tall cell of the header", Look.square(grid, 1, 3), "0,2+2x2:0/0");
        grid.setHeader(5);
        ANSWERS.due("sort(0, true) without a body", grid.sort(0, true), 0);
        ANSWERS.due("column 0 then", Grids.contents(grid, 0), "50 40 10 20 30");
    }

    private static void promise30Exceptions() {
        MergeGrid grid = Grids.merged(listed(4, 3, 2, 1), 2, 3, 3, 3);
        ANSWERS.dueThrow("sort(-1, true)", grid, INDEX, () -> grid.sort(-1, true));
        ANSWERS.dueThrow("sort(4, false)", grid, INDEX, () -> grid.sort(4, false));
        ANSWERS.dueThrow("sort(0, true) of a tall cell", grid, UNSUPPORTED, () -> grid.sort(0, true));
        ANSWERS.dueThrow("sort(3, false) of a tall cell", grid, UNSUPPORTED, () -> grid.sort(3, false));
        grid.setHeader(2);
        ANSWERS.dueThrow("sort(0, true) of the body", grid, UNSUPPORTED, () -> grid.sort(0, true));
        grid.setHeader(4);
        ANSWERS.due("sort(0, true) where the tall cell is in the header", grid.sort(0, true), 0);
    }
}
