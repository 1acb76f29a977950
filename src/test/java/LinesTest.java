/** Promises 6 to 10: rows and columns come, go and move. */
public final class LinesTest {
    private static final Class<IndexOutOfBoundsException> INDEX = IndexOutOfBoundsException.class;
    private static final Class<IllegalStateException> STATE = IllegalStateException.class;
    private static final Class<IllegalArgumentException> ARGUMENT = IllegalArgumentException.class;
    private static final Class<UnsupportedOperationException> UNSUPPORTED = UnsupportedOperationException.class;
    private static final Answers ANSWERS = new Answers("LinesTest");

    private LinesTest() {
    }

    public static void main(String[] args) {
        promise6InsertRow();
        promise6Header();
        promise6Exceptions();
        promises6And8SizesOfTheGreatestTable();
        promise7InsertColumn();
        promise7Exceptions();
        promise8DeleteRow();
        promise8Header();
        promise8Exceptions();
        promise9DeleteColumn();
        promise9Exceptions();
        promises7And9SizesOfTheGreatestTable();
        promise10MoveRow();
        promise10Exceptions();
        ANSWERS.end();
    }

    /** The middle square of the table is a cell of 2 rows and 2 columns, with the content 7 and the style 1. */
    private static MergeGrid withMiddle() {
        MergeGrid grid = Grids.numbered();
        grid.select(1, 1, 2, 2);
        grid.clear();
        grid.merge();
        grid.setContent(1, 1, 7);
        return grid;
    }

    private static void promise6InsertRow() {
        MergeGrid grid = withMiddle();
        grid.setHeight(1, 33);
        ANSWERS.due("insertRow(2)", grid.insertRow(2), 15);
        ANSWERS.due("the cell grows", Look.square(grid, 3, 2), "1,1+3x2:7/1");
        ANSWERS.due("a new square", Look.square(grid, 2, 0), "2,0+1x1:0/0");
        ANSWERS.due("another one", Look.square(grid, 2, 3), "2,3+1x1:0/0");
        ANSWERS.due("column 0", Grids.contents(grid, 0), "1 5 0 9 13");
        ANSWERS.due("heights", Grids.heights(grid), "20 33 20 20 20");
        ANSWERS.due("insertRow(1)", grid.insertRow(1), 19);
        ANSWERS.due("the cell moves", Look.square(grid, 2, 1), "2,1+3x2:7/1");
        ANSWERS.due("insertRow(5) behind it", grid.insertRow(5), 23);
        ANSWERS.due("the cell stays", Look.square(grid, 4, 1), "2,1+3x2:7/1");
        ANSWERS.due("column 0 then", Grids.contents(grid, 0), "1 0 5 0 9 0 13");
        ANSWERS.due("insertRow(0)", grid.insertRow(0), 27);
        ANSWERS.due("insertRow(8), the last", grid.insertRow(8), 31);
        ANSWERS.due("column 0 in the end", Grids.contents(grid, 0), "0 1 0 5 0 9 0 13 0");
        ANSWERS.due("heights in the end", Grids.heights(grid), "20 20 20 33 20 20 20 20 20");
        ANSWERS.due("styles stay", grid.styleAt(7, 0), 3);
        grid.select(3, 1, 8, 3);
        grid.insertRow(1);
        ANSWERS.due("the selection is the first square", Look.selection(grid), "00..00 of 1 with 0");
    }

    private static void promise6Header() {
        MergeGrid grid = new MergeGrid();
        grid.insertRow(0);
        ANSWERS.due("no header stays none", grid.header(), 0);
        grid.setHeader(2);
        grid.insertRow(2);
        ANSWERS.due("a row in front of the body is of the body", grid.header(), 2);
        grid.insertRow(1);
        ANSWERS.due("a row between two of the header is of it", grid.header(), 3);
        grid.insertRow(0);
        ANSWERS.due("a row in front of the header is of it", grid.header(), 4);
        grid.setHeader(8);
        grid.insertRow(8);
        ANSWERS.due("a row behind all is not of the header", grid.header(), 8);
        ANSWERS.due("rows()", grid.rows(), 9);
    }

    private static void promise6Exceptions() {
        MergeGrid grid = withMiddle();
        ANSWERS.dueThrow("insertRow(-1)", grid, INDEX, () -> grid.insertRow(-1));
        ANSWERS.dueThrow("insertRow(5)", grid, INDEX, () -> grid.insertRow(5));
        ANSWERS.dueThrow("insertRow(max)", grid, INDEX, () -> grid.insertRow(Integer.MAX_VALUE));
        MergeGrid full = Grids.greatest();
        full.setHeader(3);
        ANSWERS.dueThrow("insertRow(0) of 12", full, STATE, () -> full.insertRow(0));
        ANSWERS.dueThrow("insertRow(12) of 12", full, STATE, () -> full.insertRow(12));
        ANSWERS.dueThrow("insertRow(13) of 12", full, INDEX, () -> full.insertRow(13));
        ANSWERS.dueThrow("insertRow(-1) of 12", full, INDEX, () -> full.insertRow(-1));
        full.deleteRow(4);
        ANSWERS.due("insertRow(11) of 11", full.insertRow(11), 120);
    }

    private static void promises6And8SizesOfTheGreatestTable() {
        MergeGrid grid = Grids.greatest();
        for (int row = 0; row < 12; row++) {
            grid.setHeight(row, 31 + row);
        }
        grid.deleteRow(0);
        ANSWERS.due("heights without the first row", Grids.heights(grid), "32 33 34 35 36 37 38 39 40 41 42");
        grid.setHeight(10, 77);
        grid.insertRow(0);
        ANSWERS.due("heights with a first row", Grids.heights(grid), "20 32 33 34 35 36 37 38 39 40 41 77");
        grid.deleteRow(11);
        ANSWERS.due("heights without the last row", Grids.heights(grid), "20 32 33 34 35 36 37 38 39 40 41");
        grid.insertRow(11);
        ANSWERS.due("heights with a last row", Grids.heights(grid), "20 32 33 34 35 36 37 38 39 40 41 20");
    }

    private static void promises7And9SizesOfTheGreatestTable() {
        MergeGrid grid = Grids.greatest();
        for (int column = 0; column < 10; column++) {
            grid.setWidth(column, 31 + column);
        }
        grid.deleteColumn(0);
        ANSWERS.due("widths without the first column", Grids.widths(grid), "32 33 34 35 36 37 38 39 40");
        grid.setWidth(8, 77);
        grid.insertColumn(0);
        ANSWERS.due("widths with a first column", Grids.widths(grid), "50 32 33 34 35 36 37 38 39 77");
        grid.deleteColumn(9);
        ANSWERS.due("widths without the last column", Grids.widths(grid), "50 32 33 34 35 36 37 38 39");
        grid.insertColumn(9);
        ANSWERS.due("widths with a last column", Grids.widths(grid), "50 32 33 34 35 36 37 38 39 50");
    }

    private static void promise7InsertColumn() {
        MergeGrid grid = withMiddle();
        grid.setHeader(1);
        grid.setWidth(1, 66);
        ANSWERS.due("insertColumn(2)", grid.insertColumn(2), 15);
        ANSWERS.due("the cell grows", Look.square(grid, 2, 3), "1,1+2x3:7/1");
        ANSWERS.due("a new square", Look.square(grid, 0, 2), "0,2+1x1:0/0");
        ANSWERS.due("another one", Look.square(grid, 3, 2), "3,2+1x1:0/0");
        ANSWERS.due("widths", Grids.widths(grid), "50 66 50 50 50");
        ANSWERS.due("insertColumn(1)", grid.insertColumn(1), 19);
        ANSWERS.due("the cell moves", Look.square(grid, 1, 2), "1,2+2x3:7/1");
        ANSWERS.due("insertColumn(5) behind it", grid.insertColumn(5), 23);
        ANSWERS.due("the cell stays", Look.square(grid, 1, 4), "1,2+2x3:7/1");
        ANSWERS.due("insertColumn(0)", grid.insertColumn(0), 27);
        ANSWERS.due("insertColumn(8), the last", grid.insertColumn(8), 31);
        ANSWERS.due("the first content", grid.contentAt(0, 1), 1);
        ANSWERS.due("the last content", grid.contentAt(3, 7), 16);
        ANSWERS.due("the last style", grid.styleAt(3, 7), 3);
        ANSWERS.due("behind it", Look.square(grid, 3, 8), "3,8+1x1:0/0");
        ANSWERS.due("widths in the end", Grids.widths(grid), "50 50 50 66 50 50 50 50 50");
        ANSWERS.due("header()", grid.header(), 1);
        grid.select(1, 3, 2, 8);
        grid.insertColumn(9);
        ANSWERS.due("the selection is the first square", Look.selection(grid), "00..00 of 1 with 0");
    }

    private static void promise7Exceptions() {
        MergeGrid grid = withMiddle();
        ANSWERS.dueThrow("insertColumn(-1)", grid, INDEX, () -> grid.insertColumn(-1));
        ANSWERS.dueThrow("insertColumn(5)", grid, INDEX, () -> grid.insertColumn(5));
        ANSWERS.dueThrow("insertColumn(min)", grid, INDEX, () -> grid.insertColumn(Integer.MIN_VALUE));
        MergeGrid full = Grids.greatest();
        ANSWERS.dueThrow("insertColumn(0) of 10", full, STATE, () -> full.insertColumn(0));
        ANSWERS.dueThrow("insertColumn(10) of 10", full, STATE, () -> full.insertColumn(10));
        ANSWERS.dueThrow("insertColumn(11) of 10", full, INDEX, () -> full.insertColumn(11));
        ANSWERS.dueThrow("insertColumn(-1) of 10", full, INDEX, () -> full.insertColumn(-1));
        full.deleteColumn(0);
        ANSWERS.due("insertColumn(9) of 9", full.insertColumn(9), 120);
    }

    private static void promise8DeleteRow() {
        MergeGrid grid = withMiddle();
        grid.setHeight(2, 44);
        ANSWERS.due("deleteRow(1)", grid.deleteRow(1), 2);
        ANSWERS.due("the cell has one row less", Look.square(grid, 1, 2), "1,1+1x2:7/1");
        ANSWERS.due("column 0", Grids.contents(grid, 0), "1 9 13");
        ANSWERS.due("heights", Grids.heights(grid), "20 44 20");
        ANSWERS.due("rows()", grid.rows(), 3);
        grid.takeBack();
        ANSWERS.due("deleteRow(2)", grid.deleteRow(2), 2);
        ANSWERS.due("the cell has its last row less", Look.square(grid, 1, 2), "1,1+1x2:7/1");
        ANSWERS.due("column 0 then", Grids.contents(grid, 0), "1 5 13");
        ANSWERS.due("deleteRow(0)", grid.deleteRow(0), 4);
        ANSWERS.due("the cell moves", Look.square(grid, 0, 1), "0,1+1x2:7/1");
        ANSWERS.due("deleteRow(0) with the cell", grid.deleteRow(0), 3);
        ANSWERS.due("the last one", Grids.contents(grid, 3), "16");
        ANSWERS.due("its style", grid.styleAt(0, 3), 3);
        MergeGrid tall = Grids.merged(new MergeGrid(), 0, 0, 3, 3);
        ANSWERS.due("deleteRow(1) of one cell", tall.deleteRow(1), 0);
        ANSWERS.due("the selection grows over it", Look.selection(tall), "00..23 of 1 with 0");
        MergeGrid other = Grids.numbered();
        other.select(2, 2, 3, 3);
        other.deleteRow(3);
        ANSWERS.due("the selection is the first square", Look.selection(other), "00..00 of 1 with 1");
    }

    private static void promise8Header() {
        MergeGrid grid = new MergeGrid();
        grid.setHeader(2);
        grid.deleteRow(2);
        ANSWERS.due("a row of the body", grid.header(), 2);
        grid.deleteRow(1);
        ANSWERS.due("the last row of the header", grid.header(), 1);
        grid.deleteRow(0);
        ANSWERS.due("the only row of the header", grid.header(), 0);
        MergeGrid all = new MergeGrid();
        all.setHeader(4);
        all.deleteRow(3);
        ANSWERS.due("where all is header", all.header(), 3);
    }

    private static void promise8Exceptions() {
        MergeGrid grid = withMiddle();
        ANSWERS.dueThrow("deleteRow(-1)", grid, INDEX, () -> grid.deleteRow(-1));
        ANSWERS.dueThrow("deleteRow(4)", grid, INDEX, () -> grid.deleteRow(4));
        grid.deleteRow(0);
        grid.deleteRow(0);
        grid.deleteRow(0);
        ANSWERS.dueThrow("deleteRow(0) of 1", grid, STATE, () -> grid.deleteRow(0));
        ANSWERS.dueThrow("deleteRow(1) of 1", grid, INDEX, () -> grid.deleteRow(1));
        ANSWERS.dueThrow("deleteRow(-1) of 1", grid, INDEX, () -> grid.deleteRow(-1));
    }

    private static void promise9DeleteColumn() {
        MergeGrid grid = withMiddle();
        grid.setHeader(1);
        grid.setWidth(2, 44);
        ANSWERS.due("deleteColumn(1)", grid.deleteColumn(1), 2);
        ANSWERS.due("the cell has one column less", Look.square(grid, 2, 1), "1,1+2x1:7/1");
        ANSWERS.due("widths", Grids.widths(grid), "50 44 50");
        ANSWERS.due("columns()", grid.columns(), 3);
        grid.takeBack();
        ANSWERS.due("deleteColumn(2)", grid.deleteColumn(2), 2);
        ANSWERS.due("the cell has its last column less", Look.square(grid, 2, 1), "1,1+2x1:7/1");
        ANSWERS.due("deleteColumn(0)", grid.deleteColumn(0), 4);
        ANSWERS.due("the cell moves", Look.square(grid, 1, 0), "1,0+2x1:7/1");
        ANSWERS.due("deleteColumn(0) with the cell", grid.deleteColumn(0), 3);
        ANSWERS.due("the last one", Grids.contents(grid, 0), "4 8 12 16");
        ANSWERS.due("header()", grid.header(), 1);
        MergeGrid other = Grids.numbered();
        other.select(2, 2, 3, 3);
        other.deleteColumn(3);
        ANSWERS.due("the selection is the first square", Look.selection(other), "00..00 of 1 with 1");
    }

    private static void promise9Exceptions() {
        MergeGrid grid = withMiddle();
        ANSWERS.dueThrow("deleteColumn(-1)", grid, INDEX, () -> grid.deleteColumn(-1));
        ANSWERS.dueThrow("deleteColumn(4)", grid, INDEX, () -> grid.deleteColumn(4));
        grid.deleteColumn(3);
        grid.deleteColumn(0);
        grid.deleteColumn(1);
        ANSWERS.dueThrow("deleteColumn(0) of 1", grid, STATE, () -> grid.deleteColumn(0));
        ANSWERS.dueThrow("deleteColumn(1) of 1", grid, INDEX, () -> grid.deleteColumn(1));
    }

    private static void promise10MoveRow() {
        MergeGrid grid = Grids.numbered();
        for (int row = 0; row < 4; row++) {
            grid.setHeight(row, 10 + row);
        }
        ANSWERS.due("moveRow(0, 3)", grid.moveRow(0, 3), 4);
        ANSWERS.due("column 0", Grids.contents(grid, 0), "5 9 13 1");
        ANSWERS.due("heights", Grids.heights(grid), "11 12 13 10");
        ANSWERS.due("the style goes with it", grid.styleAt(3, 2), 0);
        ANSWERS.due("moveRow(2, 1)", grid.moveRow(2, 1), 2);
        ANSWERS.due("column 3", Grids.contents(grid, 3), "8 16 12 4");
        ANSWERS.due("heights then", Grids.heights(grid), "11 13 12 10");
        ANSWERS.due("moveRow(3, 0)", grid.moveRow(3, 0), 4);
        ANSWERS.due("column 0 in the end", Grids.contents(grid, 0), "1 5 13 9");
        grid.setHeader(2);
        ANSWERS.due("moveRow(1, 0) in the header", grid.moveRow(1, 0), 2);
        ANSWERS.due("moveRow(2, 3) in the body", grid.moveRow(2, 3), 2);
        ANSWERS.due("header()", grid.header(), 2);
        ANSWERS.due("column 0 with a header", Grids.contents(grid, 0), "5 1 9 13");
        grid.setContent(0, 2, 0);
        Grids.merged(grid, 0, 2, 1, 2);
        ANSWERS.due("moveRow(3, 2) beside a tall cell", grid.moveRow(3, 2), 2);
        ANSWERS.due("the tall cell stays", Look.square(grid, 1, 2), "0,2+2x1:3/1");
        grid.select(2, 2, 3, 3);
        grid.moveRow(2, 3);
        ANSWERS.due("the selection is the first square", Look.selection(grid), "00..00 of 1 with 5");
    }

    private static void promise10Exceptions() {
        MergeGrid grid = Grids.merged(new MergeGrid(), 1, 1, 2, 1);
        ANSWERS.dueThrow("moveRow(-1, 0)", grid, INDEX, () -> grid.moveRow(-1, 0));
        ANSWERS.dueThrow("moveRow(0, 4)", grid, INDEX, () -> grid.moveRow(0, 4));
        ANSWERS.dueThrow("moveRow(4, 4)", grid, INDEX, () -> grid.moveRow(4, 4));
        ANSWERS.dueThrow("moveRow(-1, -1)", grid, INDEX, () -> grid.moveRow(-1, -1));
        ANSWERS.dueThrow("moveRow(0, 0)", grid, ARGUMENT, () -> grid.moveRow(0, 0));
        ANSWERS.dueThrow("moveRow(1, 1) of a tall cell", grid, ARGUMENT, () -> grid.moveRow(1, 1));
        ANSWERS.dueThrow("moveRow(0, 1)", grid, UNSUPPORTED, () -> grid.moveRow(0, 1));
        ANSWERS.dueThrow("moveRow(3, 2)", grid, UNSUPPORTED, () -> grid.moveRow(3, 2));
        ANSWERS.dueThrow("moveRow(0, 3)", grid, UNSUPPORTED, () -> grid.moveRow(0, 3));
        ANSWERS.dueThrow("moveRow(1, 2)", grid, UNSUPPORTED, () -> grid.moveRow(1, 2));
        MergeGrid headed = new MergeGrid();
        headed.setHeader(2);
        ANSWERS.dueThrow("moveRow(1, 2) out of the header", headed, UNSUPPORTED, () -> headed.moveRow(1, 2));
        ANSWERS.dueThrow("moveRow(3, 0) into the header", headed, UNSUPPORTED, () -> headed.moveRow(3, 0));
        MergeGrid one = Grids.merged(new MergeGrid(), 0, 0, 3, 3);
        ANSWERS.dueThrow("moveRow(2, 1) of one cell alone", one, UNSUPPORTED, () -> one.moveRow(2, 1));
        MergeGrid wide = Grids.merged(new MergeGrid(), 1, 0, 1, 3);
        ANSWERS.due("moveRow(1, 0) of a wide cell", wide.moveRow(1, 0), 2);
        ANSWERS.due("the wide cell", Look.square(wide, 0, 3), "0,0+1x4:0/0");
    }
}
