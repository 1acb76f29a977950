import java.util.function.Supplier;

/** The sentences of promises 23, 24 and 26: cells are merged, split and copied. */
final class CellsEdges {
    private final Edges edges;

    CellsEdges(Edges edges) {
        this.edges = edges;
    }

    void run() {
        merges();
        mergeAnswer();
        mergeOfOneCell();
        mergeOfSeveralContents();
        mergeAcrossTheHeader();
        splits();
        splitSquare();
        splitAnswer();
        splitNoSuchSquare();
        splitNoSuchKind();
        splitIntoOnePart();
        copies();
    }

    /** A table of one size, empty, where an area is selected. */
    private static MergeGrid selecting(int rows, int columns, int row, int column, int otherRow, int otherColumn) {
        MergeGrid grid = Grids.sized(rows, columns);
        grid.select(row, column, otherRow, otherColumn);
        return grid;
    }

    private void merges() {
        edges.promise(23, "Merges all cells");
        for (int filled = 0; filled < 6; filled++) {
            MergeGrid grid = selecting(4, 5, 1, 1, 2, 3);
            for (int i = 0; i < 6; i++) {
                grid.select(1 + i / 3, 1 + i % 3, 1 + i / 3, 1 + i % 3);
                grid.setStyle(9 - i);
            }
            grid.setContent(1 + filled / 3, 1 + filled % 3, 999);
            grid.select(2, 3, 1, 1);
            grid.merge();
            edges.due("with the content of cell " + filled, Look.square(grid, 2, 2), "1,1+2x3:999/9");
        }
        MergeGrid empty = selecting(4, 5, 0, 0, 3, 4);
        empty.merge();
        edges.due("of empty cells", Look.square(empty, 3, 4), "0,0+4x5:0/0");
        MergeGrid outer = Grids.numbered();
        outer.select(1, 1, 2, 2);
        outer.clear();
        outer.merge();
        edges.due("the cells above and below stay", Grids.contents(outer, 1), "2 0 0 14");
        edges.due("the cells beside it stay", Grids.contents(outer, 3), "4 8 12 16");
        edges.due("the selection stays", Look.selection(outer), "11..22 of 1 with 0");
    }

    private void mergeAnswer() {
        edges.promise(23, "Returns the number of cells that were merged.");
        edges.due("of two beside one another", selecting(1, 2, 0, 0, 0, 1).merge(), 2);
        edges.due("of two below one another", selecting(2, 1, 1, 0, 0, 0).merge(), 2);
        edges.due("of the greatest table", selecting(12, 10, 0, 0, 11, 9).merge(), 120);
        edges.due("of the greatest row", selecting(1, 10, 0, 0, 0, 9).merge(), 10);
        MergeGrid grid = Grids.merged(Grids.greatest(), 0, 0, 11, 8);
        grid.select(0, 0, 0, 9);
        edges.due("of a great cell and single ones", grid.merge(), 13);
    }

    private void mergeOfOneCell() {
        edges.promise(23, "Throws `IllegalStateException`");
        edges.dueThrow("in a new object", MergeGrid::new, Edges.STATE, MergeGrid::merge);
        edges.dueThrow("of the only square", Grids::least, Edges.STATE, MergeGrid::merge);
        edges.dueThrow("of one filled square", () -> {
            MergeGrid grid = Grids.used(4, 4);
            grid.select(3, 3, 3, 3);
            return grid;
        }, Edges.STATE, MergeGrid::merge);
        edges.dueThrow("of one great cell", () -> {
            MergeGrid grid = Line.ROW.withCell(Grids.used(12, 10), 1, 1, 4, 7);
            grid.select(2, 2, 3, 3);
            return grid;
        }, Edges.STATE, MergeGrid::merge);
        edges.dueThrow("for a second time", () -> {
            MergeGrid grid = selecting(12, 10, 0, 0, 11, 9);
            grid.merge();
            return grid;
        }, Edges.STATE, MergeGrid::merge);
    }

    private static MergeGrid filled(int rows, int columns, int count) {
        MergeGrid grid = selecting(rows, columns, 0, 0, rows - 1, columns - 1);
        for (int i = 0; i < count; i++) {
            int square = rows * columns - 1 - i;
            grid.setContent(square / columns, square % columns, 1);
        }
        return grid;
    }

    private void mergeOfSeveralContents() {
        edges.promise(23, "Throws `UnsupportedOperationException`");
        for (int count : new int[] {2, 3, 5, 6}) {
            edges.dueThrow(count + " filled of 6", () -> filled(2, 3, count), Edges.UNSUPPORTED, MergeGrid::merge);
        }
        edges.dueThrow("all filled with the same", () -> filled(12, 10, 120), Edges.UNSUPPORTED, MergeGrid::merge);
        edges.dueThrow("two filled of the greatest table", () -> filled(12, 10, 2), Edges.UNSUPPORTED, MergeGrid::merge);
        edges.due("one filled of 6", filled(2, 3, 1).merge(), 6);
        edges.due("none filled of 6", filled(2, 3, 0).merge(), 6);
        MergeGrid beside = filled(3, 3, 4);
        beside.select(0, 0, 1, 1);
        edges.due("those that are filled are not selected", beside.merge(), 4);
    }

    private static MergeGrid headed(int header, int first, int last) {
        MergeGrid grid = selecting(12, 2, first, 0, last, 1);
        grid.setHeader(header);
        return grid;
    }

    private void mergeAcrossTheHeader() {
        for (int header = 0; header <= 12; header++) {
            int rows = header;
            if (header > 0 && header < 12) {
                edges.dueThrow("across a header of " + header, () -> headed(rows, rows - 1, rows), Edges.UNSUPPORTED,
                        MergeGrid::merge);
                edges.dueThrow("of all across a header of " + header, () -> headed(rows, 0, 11), Edges.UNSUPPORTED,
                        MergeGrid::merge);
            }
            if (header > 0) {
                edges.due("of a header of " + header, headed(header, 0, header - 1).merge(), 2 * header);
            }
            if (header < 12) {
                edges.due("of a body behind " + header, headed(header, header, 11).merge(), 2 * (12 - header));
            }
        }
        edges.dueThrow("of two contents across the header", () -> {
            MergeGrid grid = filled(2, 2, 4);
            grid.setHeader(1);
            return grid;
        }, Edges.UNSUPPORTED, MergeGrid::merge);
    }

    /** A cell of 3 rows and 2 columns in the last corner, with the content 7 and the style 3. */
    private static MergeGrid withCell() {
        return Line.ROW.withCell(Grids.used(12, 10), 9, 8, 11, 9);
    }

    private void dueParts(char kind, int row, int column, String... want) {
        edges.promise(24, "Splits the cell that covers a square.");
        MergeGrid grid = withCell();
        grid.split(row, column, kind);
        for (int i = 0; i < 6; i++) {
            String shape = Look.square(grid, 9 + i / 2, 8 + i % 2);
            edges.due("the shape of part " + i + " of " + kind, shape.replaceAll(":.*", ""), want[i]);
        }
        edges.due("a cell beside it", Look.square(grid, 9, 7), "9,7+1x1:98/9");
        edges.promise(24, "The part with its place keeps the content");
        edges.due("the first part of " + kind, Look.square(grid, 9, 8).replaceAll(".*:", ""), "7/3");
        int filled = 0;
        for (int i = 0; i < 6; i++) {
            String part = Look.square(grid, 9 + i / 2, 8 + i % 2);
            filled += part.endsWith(":7/3") ? 1 : 0;
            edges.due("part " + i + " of " + kind, part.endsWith(":7/3") || part.endsWith(":0/3"), true);
        }
        edges.due("filled squares of " + kind, filled, kind == 's' ? 1 : kind == 'r' ? 2 : 3);
    }

    private void splits() {
        dueParts('s', 9, 8, "9,8+1x1", "9,9+1x1", "10,8+1x1", "10,9+1x1", "11,8+1x1", "11,9+1x1");
        dueParts('r', 11, 9, "9,8+1x2", "9,8+1x2", "10,8+1x2", "10,8+1x2", "11,8+1x2", "11,8+1x2");
        dueParts('c', 10, 8, "9,8+3x1", "9,9+3x1", "9,8+3x1", "9,9+3x1", "9,8+3x1", "9,9+3x1");
        edges.promise(24, "`kind`: 's' into squares");
        edges.due("'s'", withCell().split(9, 8, 's'), 6);
        edges.due("'r'", withCell().split(9, 8, 'r'), 3);
        edges.due("'c'", withCell().split(9, 8, 'c'), 2);
    }

    private void splitSquare() {
        edges.promise(24, "`row`: the row of the square");
        for (int row = 0; row < 12; row++) {
            MergeGrid grid = Grids.merged(Grids.greatest(), 0, 0, 11, 9);
            edges.due("row " + row, grid.split(row, 5, 'r'), 12);
        }
        edges.promise(24, "`column`: the column of the square");
        for (int column = 0; column < 10; column++) {
            MergeGrid grid = Grids.merged(Grids.greatest(), 0, 0, 11, 9);
            edges.due("column " + column, grid.split(5, column, 'c'), 10);
        }
    }

    private void splitAnswer() {
        edges.promise(24, "Returns the number of parts.");
        edges.due("of the greatest cell into squares", Grids.merged(Grids.greatest(), 0, 0, 11, 9).split(0, 0, 's'), 120);
        edges.due("of two rows", Grids.merged(Grids.sized(2, 1), 0, 0, 1, 0).split(0, 0, 'r'), 2);
        edges.due("of two rows into squares", Grids.merged(Grids.sized(2, 1), 0, 0, 1, 0).split(0, 0, 's'), 2);
        edges.due("of two columns", Grids.merged(Grids.sized(1, 2), 0, 0, 0, 1).split(0, 1, 'c'), 2);
        edges.due("of two columns into squares", Grids.merged(Grids.sized(1, 2), 0, 0, 0, 1).split(0, 1, 's'), 2);
    }

    private void splitNoSuchSquare() {
        edges.promise(24, "Throws `IndexOutOfBoundsException`");
        for (int[] size : Edges.TABLES) {
            for (int[] at : SquaresEdges.noSquares(size[0], size[1])) {
                for (char kind : new char[] {'s', 'x'}) {
                    edges.dueThrow("at " + at[0] + "," + at[1] + " into " + kind, () -> Grids.used(size[0], size[1]),
                            Edges.INDEX, grid -> grid.split(at[0], at[1], kind));
                }
            }
        }
    }

    private void splitNoSuchKind() {
        edges.promise(24, "Throws `IllegalArgumentException`");
        Supplier<MergeGrid> great = () -> Grids.merged(new MergeGrid(), 0, 0, 3, 3);
        edges.due("the kinds that are some", Edges.charactersTaken(great, (grid, kind) -> grid.split(3, 3, kind)), "crs");
        for (char kind : new char[] {'S', 'R', 'C', 'q', 't', 'b', 'd', (char) 0, (char) 65535, (char) (256 + 's')}) {
            edges.dueThrow("of a great cell into " + (int) kind, CellsEdges::withCell, Edges.ARGUMENT,
                    grid -> grid.split(11, 9, kind));
            edges.dueThrow("of one square into " + (int) kind, CellsEdges::withCell, Edges.ARGUMENT,
                    grid -> grid.split(0, 0, kind));
        }
    }

    private void splitIntoOnePart() {
        edges.promise(24, "Throws `IllegalStateException`");
        for (char kind : new char[] {'s', 'r', 'c'}) {
            edges.dueThrow("of the only square into " + kind, () -> Grids.used(1, 1), Edges.STATE,
                    grid -> grid.split(0, 0, kind));
            edges.dueThrow("of the last square into " + kind, () -> Grids.used(12, 10), Edges.STATE,
                    grid -> grid.split(11, 9, kind));
        }
        edges.dueThrow("of one row into rows", () -> Line.ROW.withCell(Grids.used(4, 4), 3, 0, 3, 3), Edges.STATE,
                grid -> grid.split(3, 3, 'r'));
        edges.dueThrow("of one column into columns", () -> Line.ROW.withCell(Grids.used(5, 4), 2, 3, 4, 3), Edges.STATE,
                grid -> grid.split(4, 3, 'c'));
        edges.dueThrow("for a second time", () -> {
            MergeGrid grid = withCell();
            grid.split(9, 8, 's');
            return grid;
        }, Edges.STATE, grid -> grid.split(9, 8, 's'));
    }

    private void copies() {
        edges.promise(26, "Copies what is selected.");
        MergeGrid grid = withCell();
        grid.select(10, 7, 10, 9);
        grid.copy();
        grid.paste(0, 0, 1, 1);
        edges.due("a great cell of it", Look.square(grid, 2, 2), "0,1+3x2:7/3");
        edges.due("the last square of it", Look.square(grid, 2, 0), "2,0+1x1:118/9");
        edges.due("nothing more", Look.square(grid, 3, 0), "3,0+1x1:31/4");
        MergeGrid same = Grids.used(4, 4);
        MergeGrid twin = Grids.used(4, 4);
        same.copy();
        edges.due("it leaves the table and the selection", Look.at(same), Look.at(twin));
        same.takeBack();
        twin.takeBack();
        edges.due("it is no change", Look.at(same), Look.at(twin));
        edges.promise(26, "Returns the number of cells that are copied.");
        edges.due("of the only square", Grids.least().copy(), 1);
        edges.due("of a new object", new MergeGrid().copy(), 1);
        edges.due("of the greatest table", selecting(12, 10, 0, 0, 11, 9).copy(), 120);
        edges.due("of one great cell", Grids.merged(Grids.sized(2, 2), 0, 0, 1, 1).copy(), 1);
        MergeGrid mixed = withCell();
        mixed.select(10, 7, 10, 9);
        edges.due("of a great cell and single ones", mixed.copy(), 4);
        edges.due("for a second time", mixed.copy(), 4);
    }
}
