/** The sentences of promises 28 to 30: the header, and the body that is sorted below it. */
final class HeaderEdges {
    private final Edges edges;

    HeaderEdges(Edges edges) {
        this.edges = edges;
    }

    void run() {
        setsHeader();
        headerOutOfRange();
        headerThroughACell();
        sorts();
        sortsTheBody();
        sortColumns();
        sortDirections();
        sortAnswer();
        sortNoSuchColumn();
        sortOfTallCells();
    }

    private void setsHeader() {
        for (int[] size : Edges.TABLES) {
            MergeGrid grid = Grids.sized(size[0], size[1]);
            int before = 0;
            for (int rows = 0; rows <= size[0]; rows++) {
                edges.promise(28, "Returns the number before.");
                edges.due("setHeader(" + rows + ") of " + size[0], grid.setHeader(rows), before);
                edges.promise(28, "Sets how many rows");
                edges.due("header() then", grid.header(), rows);
                edges.promise(28, "`rows`: the number of rows");
                edges.due("setHeader(" + rows + ") again", grid.setHeader(rows), rows);
                before = rows;
            }
            edges.promise(29, "Returns how many rows the header has.");
            edges.due("of all rows", grid.header(), size[0]);
            grid.setHeader(0);
            edges.promise(29, "Returns the number of rows.");
            edges.due("of none", grid.header(), 0);
        }
        edges.promise(29, "Returns the number of rows.");
        edges.due("of a new object", new MergeGrid().header(), 0);
    }

    private void headerOutOfRange() {
        edges.promise(28, "Throws `IllegalArgumentException`");
        for (int[] size : Edges.TABLES) {
            for (int rows : Edges.outside(0, size[0])) {
                edges.dueThrow("setHeader(" + rows + ") of " + size[0], () -> Grids.used(size[0], size[1]), Edges.ARGUMENT,
                        grid -> grid.setHeader(rows));
            }
        }
    }

    private void headerThroughACell() {
        edges.promise(28, "Throws `UnsupportedOperationException`");
        for (int first = 0; first < 12; first++) {
            int top = first;
            int bottom = Math.min(first + 2, 11);
            for (int header = 0; header <= 12; header++) {
                int rows = header;
                String call = "setHeader(" + rows + ") with a cell in " + top + " to " + bottom;
                if (rows > top && rows <= bottom) {
                    edges.dueThrow(call, () -> withTall(top, bottom), Edges.UNSUPPORTED, grid -> grid.setHeader(rows));
                } else {
                    edges.due(call, withTall(top, bottom).setHeader(rows), 0);
                }
            }
        }
    }

    private static MergeGrid withTall(int top, int bottom) {
        return Line.ROW.withCell(Grids.sized(12, 3), top, 1, bottom, 2);
    }

    /** One column of contents; the second one tells where a row was at first. */
    private static MergeGrid listed(int... contents) {
        MergeGrid grid = Grids.sized(contents.length, 2);
        for (int row = 0; row < contents.length; row++) {
            grid.setContent(row, 0, contents[row]);
            grid.setContent(row, 1, row + 1);
            grid.setHeight(row, 51 + row);
        }
        return grid;
    }

    private void sorts() {
        edges.promise(30, "Sorts the rows of the body");
        MergeGrid grid = listed(999, 0, 998, 1, 0, 999, 500, 500, 1, 998, 2, 0);
        grid.sort(0, true);
        edges.due("contents", Grids.contents(grid, 0), "0 0 0 1 1 2 500 500 998 998 999 999");
        edges.due("equal ones stay in their order", Grids.contents(grid, 1), "2 5 12 4 9 11 7 8 3 10 1 6");
        edges.due("heights go with them", Grids.heights(grid), "52 55 62 54 59 61 57 58 53 60 51 56");
        grid.sort(0, false);
        edges.due("the greatest first", Grids.contents(grid, 0), "999 999 998 998 500 500 2 1 1 0 0 0");
        edges.due("equal ones in their order again", Grids.contents(grid, 1), "1 6 3 10 7 8 11 4 9 2 5 12");
        MergeGrid wide = Line.ROW.withCell(Grids.sized(3, 4), 0, 0, 0, 2);
        wide.setContent(1, 1, 9);
        wide.setContent(1, 2, 3);
        wide.setContent(2, 1, 8);
        wide.setContent(2, 2, 9);
        wide.sort(2, true);
        edges.due("by a cell that covers the column last", Grids.contents(wide, 2), "3 7 9");
        edges.due("it lies in one row again", Look.square(wide, 1, 1), "1,0+1x3:7/3");
        wide.sort(1, false);
        edges.due("by a cell that covers the column between", Grids.contents(wide, 1), "9 8 7");
        wide.sort(0, false);
        edges.due("by a cell that covers the column first", Grids.contents(wide, 0), "7 0 0");
        MergeGrid one = listed(5);
        one.sort(0, true);
        edges.due("of one row", Grids.contents(one, 0), "5");
    }

    private void sortsTheBody() {
        edges.promise(30, "Sorts the rows of the body");
        String[] wants = {"1 2 3 4 5", "5 1 2 3 4", "5 4 1 2 3", "5 4 3 1 2", "5 4 3 2 1", "5 4 3 2 1"};
        for (int header = 0; header <= 5; header++) {
            MergeGrid grid = listed(5, 4, 3, 2, 1);
            grid.setHeader(header);
            grid.sort(0, true);
            edges.due("below a header of " + header, Grids.contents(grid, 0), wants[header]);
            edges.due("header() then", grid.header(), header);
        }
    }

    private void sortColumns() {
        edges.promise(30, "`column`: the column");
        for (int column = 0; column < 10; column++) {
            MergeGrid grid = Grids.sized(2, 10);
            grid.setContent(0, column, 1);
            edges.due("sort(" + column + ", true)", grid.sort(column, true), 2);
            edges.due("the content then", grid.contentAt(1, column), 1);
        }
        edges.due("the only column", Grids.sized(12, 1).sort(0, true), 0);
    }

    private void sortDirections() {
        edges.promise(30, "`isAscending`");
        MergeGrid grid = listed(0, 999, 1);
        grid.sort(0, true);
        edges.due("true", Grids.contents(grid, 0), "0 1 999");
        grid.sort(0, false);
        edges.due("false", Grids.contents(grid, 0), "999 1 0");
    }

    private void sortAnswer() {
        edges.promise(30, "Returns the number of rows");
        edges.due("of one row", listed(5).sort(0, true), 0);
        edges.due("of equal rows", listed(5, 5, 5).sort(0, false), 0);
        edges.due("of empty rows", Grids.greatest().sort(9, true), 0);
        edges.due("of sorted rows", listed(1, 2, 3).sort(0, true), 0);
        edges.due("of two rows", listed(2, 1).sort(0, true), 2);
        edges.due("of 12 rows", listed(12, 11, 10, 9, 8, 7, 6, 5, 4, 3, 2, 1).sort(0, true), 12);
        edges.due("where the row between stays", listed(11, 10, 9, 8, 7, 6, 5, 4, 3, 2, 1).sort(0, true), 10);
        edges.due("where the last one comes first", listed(2, 3, 4, 1).sort(0, true), 4);
        MergeGrid headed = listed(3, 2, 1);
        headed.setHeader(2);
        edges.due("of a body of one row", headed.sort(0, true), 0);
        headed.setHeader(3);
        edges.due("of no body", headed.sort(0, true), 0);
        headed.setHeader(1);
        edges.due("of a body of two rows", headed.sort(0, true), 2);
    }

    private void sortNoSuchColumn() {
        edges.promise(30, "Throws `IndexOutOfBoundsException`");
        for (int[] size : Edges.TABLES) {
            for (int column : Edges.outside(0, size[1] - 1)) {
                edges.dueThrow("sort(" + column + ") of " + size[1], () -> Grids.used(size[0], size[1]), Edges.INDEX,
                        grid -> grid.sort(column, column < 0));
            }
        }
        edges.dueThrow("sort(3) of a tall cell", () -> withTall(0, 1), Edges.INDEX, grid -> grid.sort(3, true));
    }

    private void sortOfTallCells() {
        edges.promise(30, "Throws `UnsupportedOperationException`");
        for (int column = 0; column < 3; column++) {
            int by = column;
            edges.dueThrow("in the first rows, by " + by, () -> withTall(0, 1), Edges.UNSUPPORTED,
                    grid -> grid.sort(by, true));
            edges.dueThrow("in the last rows, by " + by, () -> withTall(10, 11), Edges.UNSUPPORTED,
                    grid -> grid.sort(by, false));
            edges.dueThrow("behind the header, by " + by, () -> {
                MergeGrid grid = withTall(5, 7);
                grid.setHeader(5);
                return grid;
            }, Edges.UNSUPPORTED, grid -> grid.sort(by, false));
        }
        edges.dueThrow("as great as the table", () -> Grids.merged(new MergeGrid(), 0, 0, 3, 3), Edges.UNSUPPORTED,
                grid -> grid.sort(3, true));
        MergeGrid headed = withTall(0, 2);
        headed.setHeader(3);
        headed.setContent(3, 0, 9);
        edges.due("in the header", headed.sort(0, true), 9);
        edges.due("it stays there", Look.square(headed, 2, 2), "0,1+3x2:7/3");
    }
}
