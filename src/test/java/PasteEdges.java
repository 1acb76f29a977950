/** The sentences of promise 27: copies are pasted. */
final class PasteEdges {
    private final Edges edges;

    PasteEdges(Edges edges) {
        this.edges = edges;
    }

    void run() {
        pastes();
        pasteSquare();
        pasteTimes();
        pasteAnswer();
        noSuchSquare();
        timesOutOfRange();
        nothingCopied();
        beyondTheTable();
        onHalfCells();
        acrossTheHeader();
    }

    /** A table of one size, where a block of empty squares from its first corner is copied. */
    private static MergeGrid withBlock(int rows, int columns, int high, int wide) {
        MergeGrid grid = Grids.used(rows, columns);
        grid.setHeader(0);
        grid.select(0, 0, high - 1, wide - 1);
        grid.copy();
        return grid;
    }

    private void pastes() {
        edges.promise(27, "Pastes the copy, several times");
        MergeGrid grid = withBlock(8, 10, 1, 2);
        grid.paste(4, 3, 4, 3);
        for (int row = 0; row < 8; row++) {
            for (int column = 0; column < 10; column++) {
                boolean isPasted = row >= 4 && column >= 3 && column < 9;
                int first = (column - 3) % 2 + 1;
                int content = row == 7 && column == 9 ? 500 : row * 10 + column + 1;
                String want = isPasted ? first + "/1" : content + "/" + (row + 1);
                edges.due("the square " + row + "," + column, Look.square(grid, row, column).replaceAll(".*:", ""), want);
            }
        }
        edges.due("heights and widths stay", Grids.heights(grid) + ", " + Grids.widths(grid),
                "21 22 23 24 25 26 27 28, 51 52 53 54 55 56 57 58 59 60");
        MergeGrid over = withBlock(4, 4, 1, 1);
        Line.ROW.withCell(over, 1, 1, 3, 3);
        over.paste(1, 1, 3, 3);
        edges.due("in place of a great cell", Look.square(over, 1, 1) + " " + Look.square(over, 3, 3),
                "1,1+1x1:1/1 3,3+1x1:1/1");
        MergeGrid great = Line.ROW.withCell(Grids.used(4, 4), 0, 0, 1, 1);
        great.select(0, 0, 0, 0);
        great.copy();
        great.setHeader(0);
        great.paste(2, 0, 1, 2);
        edges.due("a great cell in place of squares", Look.square(great, 3, 1) + " " + Look.square(great, 3, 3),
                "2,0+2x2:7/3 2,2+2x2:7/3");
    }

    private void pasteSquare() {
        edges.promise(27, "`row`: the lowest row");
        for (int row = 0; row < 12; row++) {
            MergeGrid grid = withBlock(12, 10, 1, 1);
            grid.setContent(row, 5, 0);
            edges.due("the row " + row, grid.paste(row, 5, 1, 1) + grid.contentAt(row, 5), 2);
        }
        edges.promise(27, "`column`: the lowest column");
        for (int column = 0; column < 10; column++) {
            MergeGrid grid = withBlock(12, 10, 1, 1);
            grid.setContent(5, column, 0);
            edges.due("the column " + column, grid.paste(5, column, 1, 1) + grid.contentAt(5, column), 2);
        }
    }

    private void pasteTimes() {
        for (int times = 1; times <= 4; times++) {
            edges.promise(27, "`down`: how many times");
            MergeGrid down = withBlock(12, 10, 3, 2);
            edges.due(times + " times", down.paste(0, 8, times, 1), 6 * times);
            edges.due("the last row of it", Look.square(down, 3 * times - 1, 9).replaceAll(".*:", ""), "22/3");
            edges.due("behind it", times == 4 || down.contentAt(3 * times, 9) == 30 * times + 10, true);
            edges.promise(27, "`across`: how many times");
            MergeGrid across = withBlock(12, 10, 3, 2);
            edges.due(times + " times", across.paste(9, 0, 1, times), 6 * times);
            edges.due("the last column of it", Look.square(across, 11, 2 * times - 1).replaceAll(".*:", ""), "22/3");
            edges.due("behind it", across.contentAt(11, 2 * times), 110 + 2 * times + 1);
        }
    }

    private void pasteAnswer() {
        edges.promise(27, "Returns the number of cells that come.");
        edges.due("of one square once", withBlock(1, 1, 1, 1).paste(0, 0, 1, 1), 1);
        edges.due("of one square most times", withBlock(4, 4, 1, 1).paste(0, 0, 4, 4), 16);
        edges.due("of a block most times", withBlock(12, 10, 3, 2).paste(0, 2, 4, 4), 96);
        edges.due("of the greatest table", withBlock(12, 10, 12, 10).paste(0, 0, 1, 1), 120);
        MergeGrid great = Grids.merged(Grids.sized(12, 8), 0, 0, 2, 1);
        great.copy();
        edges.due("of a great cell most times", great.paste(0, 0, 4, 4), 16);
        edges.due("all cells are such ones then", great.cellCount(), 16);
        edges.due("of the same cells again", great.paste(3, 2, 3, 3), 9);
    }

    private void noSuchSquare() {
        edges.promise(27, "Throws `IndexOutOfBoundsException`");
        for (int[] size : Edges.TABLES) {
            for (int[] at : SquaresEdges.noSquares(size[0], size[1])) {
                String call = "at " + at[0] + "," + at[1] + " of " + size[0] + "x" + size[1];
                edges.dueThrow(call, () -> withBlock(size[0], size[1], 1, 1), Edges.INDEX,
                        grid -> grid.paste(at[0], at[1], 1, 1));
                edges.dueThrow(call + ", 5 times", () -> withBlock(size[0], size[1], 1, 1), Edges.INDEX,
                        grid -> grid.paste(at[0], at[1], 5, 0));
                edges.dueThrow(call + ", of nothing", () -> Grids.sized(size[0], size[1]), Edges.INDEX,
                        grid -> grid.paste(at[0], at[1], 1, 1));
            }
        }
    }

    private void timesOutOfRange() {
        edges.promise(27, "Throws `IllegalArgumentException`");
        for (int times : Edges.outside(1, 4)) {
            for (int[] many : new int[][] {{times, 1}, {1, times}, {times, 4}, {4, times}, {times, times}}) {
                String call = many[0] + " times " + many[1];
                edges.dueThrow(call, () -> withBlock(12, 10, 1, 1), Edges.ARGUMENT,
                        grid -> grid.paste(0, 0, many[0], many[1]));
                edges.dueThrow(call + " beyond the table", () -> withBlock(12, 10, 12, 10), Edges.ARGUMENT,
                        grid -> grid.paste(11, 9, many[0], many[1]));
                edges.dueThrow(call + " of nothing", MergeGrid::new, Edges.ARGUMENT,
                        grid -> grid.paste(0, 0, many[0], many[1]));
            }
        }
    }

    private void nothingCopied() {
        edges.promise(27, "Throws `IllegalStateException`");
        for (int[] size : Edges.TABLES) {
            edges.dueThrow("of nothing in " + size[0] + "x" + size[1], () -> Grids.sized(size[0], size[1]), Edges.STATE,
                    grid -> grid.paste(size[0] - 1, size[1] - 1, 1, 1));
        }
        edges.dueThrow("of what was selected, but not copied", () -> Grids.numbered(), Edges.STATE,
                grid -> grid.paste(0, 0, 1, 1));
        edges.dueThrow("of nothing in a part of a cell", () -> Grids.merged(new MergeGrid(), 0, 0, 3, 3), Edges.STATE,
                grid -> grid.paste(1, 1, 1, 1));
    }

    private void dueBeyond(int high, int wide, int row, int column, int down, int across) {
        String call = "paste(" + row + ", " + column + ", " + down + ", " + across + ") of " + high + "x" + wide;
        if (row + high * down <= 12 && column + wide * across <= 10) {
            MergeGrid grid = withBlock(12, 10, high, wide);
            edges.due(call, grid.paste(row, column, down, across), high * wide * down * across);
        } else {
            edges.dueThrow(call, () -> withBlock(12, 10, high, wide), Edges.STATE,
                    grid -> grid.paste(row, column, down, across));
        }
    }

    private void beyondTheTable() {
        int[][] blocks = {{1, 1}, {3, 2}, {12, 10}, {1, 10}, {12, 1}, {7, 6}};
        for (int[] block : blocks) {
            for (int times = 1; times <= 4; times++) {
                for (int at = 0; at < 12; at++) {
                    dueBeyond(block[0], block[1], at, 0, times, 1);
                    dueBeyond(block[0], block[1], 0, Math.min(at, 9), 1, times);
                }
            }
            dueBeyond(block[0], block[1], 11, 9, 4, 4);
        }
        edges.dueThrow("of a row more than there are", () -> {
            MergeGrid grid = withBlock(12, 10, 12, 1);
            grid.deleteRow(11);
            return grid;
        }, Edges.STATE, grid -> grid.paste(0, 0, 1, 1));
        edges.dueThrow("of a column more than there are", () -> {
            MergeGrid grid = withBlock(12, 10, 1, 10);
            grid.deleteColumn(0);
            return grid;
        }, Edges.STATE, grid -> grid.paste(0, 0, 1, 1));
        edges.dueThrow("beyond the table, and on a part of a cell",
                () -> Line.ROW.withCell(withBlock(4, 4, 2, 2), 0, 0, 3, 3), Edges.STATE,
                grid -> grid.paste(1, 1, 2, 1));
        edges.dueThrow("beyond the table, and across the header", () -> {
            MergeGrid grid = Line.ROW.withCell(Grids.sized(4, 4), 0, 0, 1, 0);
            grid.select(0, 0, 0, 0);
            grid.copy();
            grid.setHeader(3);
            return grid;
        }, Edges.STATE, grid -> grid.paste(2, 0, 2, 1));
    }

    /** What was copied is a block of 2 rows and 2 columns, and a cell lies in an area. */
    private static MergeGrid withCellAt(int[] area) {
        return Line.ROW.withCell(withBlock(6, 6, 2, 2), area[0], area[1], area[2], area[3]);
    }

    private void onHalfCells() {
        edges.promise(27, "Throws `UnsupportedOperationException`");
        int[][] cut = {{1, 2, 2, 2}, {1, 3, 2, 3}, {3, 2, 4, 2}, {3, 3, 4, 3}, {2, 1, 2, 2}, {3, 1, 3, 2}, {2, 3, 2, 4},
            {3, 3, 3, 4}, {1, 1, 2, 2}, {3, 3, 4, 4}, {1, 2, 4, 2}, {2, 1, 2, 4}, {1, 1, 4, 4}, {2, 2, 3, 4}, {1, 2, 3, 3},
            {0, 0, 5, 5}};
        for (int[] area : cut) {
            edges.dueThrow("on a part of a cell at " + area[0] + "," + area[1], () -> withCellAt(area), Edges.UNSUPPORTED,
                    grid -> grid.paste(2, 2, 1, 1));
        }
        int[][] whole = {{2, 2, 3, 3}, {2, 2, 2, 3}, {2, 3, 3, 3}, {0, 2, 1, 3}, {4, 2, 5, 3}, {2, 0, 3, 1}, {2, 4, 3, 5},
            {0, 0, 1, 1}, {4, 4, 5, 5}, {1, 0, 4, 1}, {4, 1, 5, 4}};
        for (int[] area : whole) {
            MergeGrid grid = withCellAt(area);
            edges.due("beside or on a whole cell at " + area[0] + "," + area[1], grid.paste(2, 2, 1, 1), 4);
            edges.due("the last square of it", Look.square(grid, 3, 3), "3,3+1x1:8/2");
        }
        edges.dueThrow("on a part of a cell by the last copy", () -> withCellAt(new int[] {3, 3, 4, 4}),
                Edges.UNSUPPORTED, grid -> grid.paste(0, 0, 2, 2));
    }

    /** A copied cell of 2 rows, in a table of single squares with a header. */
    private static MergeGrid withTallBlock(int header) {
        MergeGrid grid = Line.ROW.withCell(Grids.used(12, 2), 10, 0, 11, 0);
        grid.select(10, 0, 10, 0);
        grid.copy();
        grid.split(10, 0, 's');
        grid.setHeader(header);
        return grid;
    }

    private void acrossTheHeader() {
        for (int header = 0; header <= 12; header++) {
            for (int row = 0; row <= 10; row++) {
                for (int down = 1; down <= 4 && row + 2 * down <= 12; down++) {
                    dueTallPaste(header, row, down);
                }
            }
        }
    }

    private void dueTallPaste(int header, int row, int down) {
        String call = "paste(" + row + ", 1, " + down + ", 1) with a header of " + header;
        boolean isAcross = header > row && header < row + 2 * down && (header - row) % 2 == 1;
        if (isAcross) {
            edges.dueThrow(call, () -> withTallBlock(header), Edges.UNSUPPORTED, grid -> grid.paste(row, 1, down, 1));
        } else {
            MergeGrid grid = withTallBlock(header);
            edges.due(call, grid.paste(row, 1, down, 1), down);
            edges.due(call + ", isTiled()", grid.isTiled(), true);
            edges.due(call + ", the last cell", grid.topOf(row + 2 * down - 1, 1), row + 2 * down - 2);
        }
    }
}
