/** Promises 23, 24, 26 and 27: cells are merged, split, copied and pasted. */
public final class CellsTest {
    private static final Class<IndexOutOfBoundsException> INDEX = IndexOutOfBoundsException.class;
    private static final Class<IllegalStateException> STATE = IllegalStateException.class;
    private static final Class<IllegalArgumentException> ARGUMENT = IllegalArgumentException.class;
    private static final Class<UnsupportedOperationException> UNSUPPORTED = UnsupportedOperationException.class;
    private static final Answers ANSWERS = new Answers("CellsTest");

    private CellsTest() {
    }

    public static void main(String[] args) {
        promise23Merge();
        promise23Exceptions();
        promise24Split();
        promise24Exceptions();
        promise26Copy();
        promise27Paste();
        promise27PasteFromTheMiddle();
        promise27PasteKeepsTheCopy();
        promise27Exceptions();
        promise27Header();
        ANSWERS.end();
    }

    private static void promise23Merge() {
        MergeGrid grid = new MergeGrid();
        grid.select(1, 1, 1, 1);
        grid.setStyle(4);
        grid.select(2, 3, 2, 3);
        grid.setStyle(5);
        grid.setContent(2, 3, 8);
        grid.select(2, 3, 1, 1);
        ANSWERS.due("merge()", grid.merge(), 6);
        ANSWERS.due("the cell", Look.square(grid, 2, 2), "1,1+2x3:8/4");
        ANSWERS.due("the selection stays", Look.selection(grid), "11..23 of 1 with 8");
        ANSWERS.due("cellCount()", grid.cellCount(), 11);
        grid.select(0, 0, 1, 1);
        ANSWERS.due("merge() with a merged cell", grid.merge(), 7);
        ANSWERS.due("the greater cell", Look.square(grid, 2, 3), "0,0+3x4:8/0");
        grid.setHeader(3);
        grid.select(3, 0, 3, 3);
        ANSWERS.due("merge() in the body", grid.merge(), 4);
        ANSWERS.due("the empty cell", Look.square(grid, 3, 3), "3,0+1x4:0/0");
    }

    private static void promise23Exceptions() {
        MergeGrid grid = Grids.numbered();
        ANSWERS.dueThrow("merge() of one square", grid, STATE, grid::merge);
        grid.select(0, 0, 0, 1);
        ANSWERS.dueThrow("merge() of two contents", grid, UNSUPPORTED, grid::merge);
        grid.setContent(0, 1, 0);
        grid.merge();
        ANSWERS.dueThrow("merge() of one cell", grid, STATE, grid::merge);
        grid.select(2, 0, 3, 3);
        grid.clear();
        grid.setHeader(3);
        ANSWERS.dueThrow("merge() across the header", grid, UNSUPPORTED, grid::merge);
        grid.setHeader(2);
        ANSWERS.due("merge() behind the header", grid.merge(), 8);
        MergeGrid headed = new MergeGrid();
        headed.setHeader(1);
        headed.select(0, 0, 0, 3);
        ANSWERS.due("merge() of the header", headed.merge(), 4);
    }

    private static MergeGrid withGreatCell() {
        MergeGrid grid = new MergeGrid();
        grid.select(1, 1, 2, 3);
        grid.setStyle(6);
        grid.merge();
        grid.setContent(1, 1, 9);
        return grid;
    }

    private static void promise24Split() {
        MergeGrid squares = withGreatCell();
        ANSWERS.due("split(2, 3, 's')", squares.split(2, 3, 's'), 6);
        ANSWERS.due("the first part", Look.square(squares, 1, 1), "1,1+1x1:9/6");
        for (int i = 1; i < 6; i++) {
            int row = 1 + i / 3;
            int column = 1 + i % 3;
            String want = row + "," + column + "+1x1:0/6";
            ANSWERS.due("part " + i, Look.square(squares, row, column), want);
        }
        ANSWERS.due("the selection is the first square", Look.selection(squares), "00..00 of 1 with 0");
        MergeGrid rows = withGreatCell();
        ANSWERS.due("split(1, 2, 'r')", rows.split(1, 2, 'r'), 2);
        ANSWERS.due("the first row", Look.square(rows, 1, 3), "1,1+1x3:9/6");
        ANSWERS.due("the second row", Look.square(rows, 2, 3), "2,1+1x3:0/6");
        ANSWERS.due("split(2, 2, 'c') of a row", rows.split(2, 2, 'c'), 3);
        ANSWERS.due("a square of it", Look.square(rows, 2, 2), "2,2+1x1:0/6");
        MergeGrid columns = withGreatCell();
        ANSWERS.due("split(2, 1, 'c')", columns.split(2, 1, 'c'), 3);
        ANSWERS.due("the first column", Look.square(columns, 2, 1), "1,1+2x1:9/6");
        ANSWERS.due("the second column", Look.square(columns, 2, 2), "1,2+2x1:0/6");
        ANSWERS.due("the third column", Look.square(columns, 1, 3), "1,3+2x1:0/6");
        ANSWERS.due("cellCount()", columns.cellCount(), 13);
        ANSWERS.due("the other cells stay", Look.square(columns, 0, 3), "0,3+1x1:0/0");
        MergeGrid all = Grids.merged(new MergeGrid(), 0, 0, 3, 3);
        ANSWERS.due("split(3, 3, 'r') of all", all.split(3, 3, 'r'), 4);
        ANSWERS.due("the selection grows", Look.selection(all), "00..03 of 1 with 0");
    }

    private static void promise24Exceptions() {
        MergeGrid grid = Grids.merged(Grids.merged(new MergeGrid(), 1, 0, 1, 3), 2, 0, 3, 0);
        ANSWERS.dueThrow("split(4, 0, 's')", grid, INDEX, () -> grid.split(4, 0, 's'));
        ANSWERS.dueThrow("split(0, -1, 'x')", grid, INDEX, () -> grid.split(0, -1, 'x'));
        ANSWERS.dueThrow("split(1, 0, 'x')", grid, ARGUMENT, () -> grid.split(1, 0, 'x'));
        ANSWERS.dueThrow("split(0, 0, 'S') of one square", grid, ARGUMENT, () -> grid.split(0, 0, 'S'));
        for (char kind : new char[] {'s', 'r', 'c'}) {
            ANSWERS.dueThrow("split(0, 0, " + kind + ")", grid, STATE, () -> grid.split(0, 0, kind));
        }
        ANSWERS.dueThrow("split(1, 1, 'r') of one row", grid, STATE, () -> grid.split(1, 1, 'r'));
        ANSWERS.dueThrow("split(3, 0, 'c') of one column", grid, STATE, () -> grid.split(3, 0, 'c'));
        ANSWERS.due("split(1, 1, 'c')", grid.split(1, 1, 'c'), 4);
        ANSWERS.due("split(3, 0, 'r')", grid.split(3, 0, 'r'), 2);
    }

    private static void promise26Copy() {
        MergeGrid grid = Grids.merged(new MergeGrid(), 1, 1, 2, 2);
        String before = Look.at(grid);
        ANSWERS.due("copy() of a square", grid.copy(), 1);
        ANSWERS.due("copy() changes nothing", Look.at(grid), before);
        grid.select(1, 1, 1, 0);
        ANSWERS.due("copy() of a block", grid.copy(), 3);
        grid.select(0, 0, 3, 3);
        ANSWERS.due("copy() of all", grid.copy(), 13);
        MergeGrid fresh = new MergeGrid();
        fresh.copy();
        ANSWERS.dueThrow("copy() is no change", fresh, STATE, fresh::takeBack);
        MergeGrid greatest = Grids.greatest();
        greatest.select(0, 0, 11, 9);
        ANSWERS.due("copy() of the greatest table", greatest.copy(), 120);
        ANSWERS.due("paste() of it", greatest.paste(0, 0, 1, 1), 120);
    }

    /** A block of 2 rows and 2 columns: a wide cell above two squares. */
    private static MergeGrid withBlock() {
        MergeGrid grid = Grids.merged(new MergeGrid(), 0, 0, 0, 1);
        grid.insertRow(4);
        grid.setContent(0, 0, 5);
        grid.setContent(1, 1, 7);
        grid.setStyle(2);
        grid.select(0, 0, 1, 1);
        ANSWERS.due("copy() of the block", grid.copy(), 3);
        return grid;
    }

    private static void promise27Paste() {
        MergeGrid grid = withBlock();
        grid.setContent(2, 3, 99);
        grid.setHeight(0, 60);
        grid.setWidth(0, 60);
        ANSWERS.due("paste(1, 0, 2, 2)", grid.paste(1, 0, 2, 2), 12);
        for (int i = 0; i < 4; i++) {
            int row = 1 + i / 2 * 2;
            int column = i % 2 * 2;
            ANSWERS.due("wide cell " + i, Look.square(grid, row, column + 1), row + "," + column + "+1x2:5/2");
            int below = row + 1;
            int right = column + 1;
            ANSWERS.due("left " + i, Look.square(grid, below, column), below + "," + column + "+1x1:0/0");
            ANSWERS.due("right " + i, Look.square(grid, below, right), below + "," + right + "+1x1:7/0");
        }
        ANSWERS.due("the row above stays", Look.square(grid, 0, 0), "0,0+1x2:5/2");
        ANSWERS.due("cellCount()", grid.cellCount(), 15);
        ANSWERS.due("the selection is the first square, grown", Look.selection(grid), "00..01 of 1 with 5");
        ANSWERS.due("heights stay", Grids.heights(grid), "60 20 20 20 20");
        ANSWERS.due("widths stay", Grids.widths(grid), "60 50 50 50");
        ANSWERS.due("paste(3, 2, 1, 1) on a copy", grid.paste(3, 2, 1, 1), 3);
        MergeGrid square = new MergeGrid();
        square.copy();
        ANSWERS.due("paste(0, 0, 4, 4) of a square", square.paste(0, 0, 4, 4), 16);
    }

    private static void promise27PasteFromTheMiddle() {
        MergeGrid grid = Grids.numbered();
        grid.setContent(1, 2, 0);
        Grids.merged(grid, 1, 2, 1, 3);
        grid.setContent(1, 3, 70);
        grid.select(1, 1, 2, 3);
        ANSWERS.due("copy() from the middle", grid.copy(), 5);
        ANSWERS.due("paste(2, 0, 1, 1)", grid.paste(2, 0, 1, 1), 5);
        ANSWERS.due("its first cell", Look.square(grid, 2, 0), "2,0+1x1:6/1");
        ANSWERS.due("its wide cell", Look.square(grid, 2, 2), "2,1+1x2:70/1");
        ANSWERS.due("its second row", Grids.contents(grid, 0) + ", " + Grids.contents(grid, 2), "1 5 6 10, 3 70 70 12");
        ANSWERS.due("a square beside it", Look.square(grid, 3, 3), "3,3+1x1:16/3");
        ANSWERS.due("what was copied stays", Look.square(grid, 1, 3), "1,2+1x2:70/1");
        ANSWERS.due("cellCount()", grid.cellCount(), 14);
    }

    private static void promise27PasteKeepsTheCopy() {
        MergeGrid grid = withBlock();
        grid.deleteRow(0);
        grid.deleteRow(0);
        grid.takeBack();
        ANSWERS.due("paste(1, 1, 1, 1) of what has gone", grid.paste(1, 1, 1, 1), 3);
        ANSWERS.due("the wide cell", Look.square(grid, 1, 2), "1,1+1x2:5/2");
        ANSWERS.due("the square", Look.square(grid, 2, 2), "2,2+1x1:7/0");
        grid.takeBack();
        ANSWERS.due("paste(2, 2, 1, 1) again", grid.paste(2, 2, 1, 1), 3);
        ANSWERS.due("the wide cell then", Look.square(grid, 2, 3), "2,2+1x2:5/2");
        MergeGrid overlap = Grids.numbered();
        overlap.select(0, 0, 1, 0);
        overlap.copy();
        overlap.paste(1, 0, 1, 1);
        ANSWERS.due("a paste over its own source", Grids.contents(overlap, 0), "1 1 5 13");
        ANSWERS.due("the styles too", overlap.styleAt(1, 0) + " " + overlap.styleAt(2, 0), "0 1");
    }

    private static void promise27Exceptions() {
        MergeGrid fresh = new MergeGrid();
        ANSWERS.dueThrow("paste(0, 0, 1, 1) of nothing", fresh, STATE, () -> fresh.paste(0, 0, 1, 1));
        ANSWERS.dueThrow("paste(0, 0, 5, 1) of nothing", fresh, ARGUMENT, () -> fresh.paste(0, 0, 5, 1));
        ANSWERS.dueThrow("paste(4, 0, 5, 1) of nothing", fresh, INDEX, () -> fresh.paste(4, 0, 5, 1));
        MergeGrid grid = withBlock();
        int[][] squares = {{-1, 0}, {0, -1}, {5, 0}, {0, 4}};
        for (int[] at : squares) {
            ANSWERS.dueThrow("paste at " + at[0] + "," + at[1], grid, INDEX, () -> grid.paste(at[0], at[1], 0, 5));
        }
        int[][] times = {{0, 1}, {1, 0}, {5, 1}, {1, 5}, {-1, 1}, {1, Integer.MAX_VALUE}, {Integer.MIN_VALUE, 1}};
        for (int[] many : times) {
            String call = "paste " + many[0] + " by " + many[1];
            ANSWERS.dueThrow(call, grid, ARGUMENT, () -> grid.paste(4, 3, many[0], many[1]));
        }
        ANSWERS.dueThrow("paste(4, 0, 1, 1)", grid, STATE, () -> grid.paste(4, 0, 1, 1));
        ANSWERS.dueThrow("paste(0, 3, 1, 1)", grid, STATE, () -> grid.paste(0, 3, 1, 1));
        ANSWERS.dueThrow("paste(0, 0, 3, 1)", grid, STATE, () -> grid.paste(0, 0, 3, 1));
        ANSWERS.dueThrow("paste(0, 0, 1, 3)", grid, STATE, () -> grid.paste(0, 0, 1, 3));
        ANSWERS.dueThrow("paste(0, 1, 1, 1) on a half cell", grid, UNSUPPORTED, () -> grid.paste(0, 1, 1, 1));
        ANSWERS.dueThrow("paste(0, 1, 4, 1) beyond it", grid, STATE, () -> grid.paste(0, 1, 4, 1));
        ANSWERS.due("paste(0, 0, 1, 2) on a whole cell", grid.paste(0, 0, 1, 2), 6);
        MergeGrid one = new MergeGrid();
        one.copy();
        Grids.merged(one, 0, 0, 3, 3);
        ANSWERS.dueThrow("paste(1, 1, 2, 2) in a cell", one, UNSUPPORTED, () -> one.paste(1, 1, 2, 2));
        ANSWERS.due("paste(0, 0, 4, 4) on it", one.paste(0, 0, 4, 4), 16);
    }

    private static void promise27Header() {
        MergeGrid grid = Grids.merged(new MergeGrid(), 2, 0, 3, 0);
        grid.select(1, 0, 2, 0);
        ANSWERS.due("copy() of a square above a tall cell", grid.copy(), 2);
        grid.setHeader(1);
        ANSWERS.due("paste(0, 1, 1, 1) with the border between them", grid.paste(0, 1, 1, 1), 2);
        ANSWERS.due("the tall cell", Look.square(grid, 2, 1), "1,1+2x1:0/0");
        grid.setHeader(0);
        grid.deleteRow(0);
        grid.split(0, 1, 's');
        grid.setHeader(1);
        ANSWERS.due("paste(0, 2, 1, 1)", grid.paste(0, 2, 1, 1), 2);
        MergeGrid across = Grids.merged(new MergeGrid(), 2, 0, 3, 0);
        across.insertRow(4);
        across.insertRow(5);
        across.select(2, 0, 2, 0);
        across.copy();
        across.setHeader(1);
        ANSWERS.dueThrow("paste(0, 1, 1, 1) across", across, UNSUPPORTED, () -> across.paste(0, 1, 1, 1));
        ANSWERS.due("paste(1, 1, 2, 1) below", across.paste(1, 1, 2, 1), 2);
        across.takeBack();
        across.setHeader(2);
        ANSWERS.dueThrow("paste(1, 1, 1, 1) across", across, UNSUPPORTED, () -> across.paste(1, 1, 1, 1));
        ANSWERS.due("paste(2, 1, 1, 1) below then", across.paste(2, 1, 1, 1), 1);
        across.takeBack();
        across.setHeader(4);
        ANSWERS.due("paste(1, 1, 1, 1) in the header", across.paste(1, 1, 1, 1), 1);
        across.takeBack();
        across.split(2, 0, 's');
        across.setHeader(3);
        ANSWERS.dueThrow("paste(0, 1, 3, 1) across in a copy", across, UNSUPPORTED, () -> across.paste(0, 1, 3, 1));
        across.setHeader(4);
        ANSWERS.due("paste(0, 1, 3, 1) with the border between copies", across.paste(0, 1, 3, 1), 3);
        ANSWERS.due("isTiled()", across.isTiled(), true);
    }
}
