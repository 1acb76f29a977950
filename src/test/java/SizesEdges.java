import java.util.NoSuchElementException;

/** The sentences of promises 31 to 36 and 38: widths and heights, and the cell at a point. */
final class SizesEdges {
    private final Edges edges;

    SizesEdges(Edges edges) {
        this.edges = edges;
    }

    private interface Setting {
        int of(MergeGrid grid, int line, int size);
    }

    void run() {
        tellsSizes(31, Line.COLUMN, "Returns the width of a column.", "Returns the width.");
        tellsSizes(32, Line.ROW, "Returns the height of a row.", "Returns the height.");
        setsSizes(33, Line.COLUMN, MergeGrid::setWidth, "Sets the width", "`width`: ", "Returns the width before.");
        setsSizes(34, Line.ROW, MergeGrid::setHeight, "Sets the height", "`height`: ", "Returns the height before.");
        sizeOutOfRange(33, 10, 200, MergeGrid::setWidth);
        sizeOutOfRange(34, 5, 100, MergeGrid::setHeight);
        drags();
        dragNumbers();
        dragNoSuchColumn();
        dragOutOfRange();
        evens();
        evenNumbers();
        evenNoSuchColumn();
        evenNotBehind();
        cellsAtPoints();
        cellAtEveryBorder();
        noCellAtPoints();
    }

    private static String parameter(Line line) {
        return line == Line.ROW ? "`row`: the row" : "`column`: the column";
    }

    private void tellsSizes(int promise, Line line, String words, String answer) {
        MergeGrid grid = line.used(line.most, 3);
        int first = line == Line.ROW ? 21 : 51;
        edges.promise(promise, words);
        edges.due("of a new object", line.size(new MergeGrid(), 3), line.newSize);
        edges.promise(promise, parameter(line));
        for (int number = 0; number < line.most; number++) {
            edges.due("of the line " + number, line.size(grid, number), first + number);
        }
        edges.promise(promise, answer);
        edges.due("of the only one", line.size(line.used(1, line.mostAcross), 0), first);
        edges.promise(promise, "Throws `IndexOutOfBoundsException`");
        for (int count : new int[] {1, 4, line.most}) {
            for (int number : Edges.outside(0, count - 1)) {
                edges.dueThrow("of the line " + number + " of " + count, () -> line.used(count, 5), Edges.INDEX,
                        g -> line.size(g, number));
            }
        }
    }

    private void setsSizes(int promise, Line line, Setting setting, String words, String range, String answer) {
        int least = line == Line.ROW ? 5 : 10;
        int most = line == Line.ROW ? 100 : 200;
        edges.promise(promise, words);
        MergeGrid grid = line.sized(3, 1);
        setting.of(grid, 1, most);
        edges.due("of one alone", line.size(grid, 0) + " " + line.size(grid, 1) + " " + line.size(grid, 2),
                line.newSize + " " + most + " " + line.newSize);
        edges.promise(promise, range);
        for (int size : new int[] {least, least + 1, most - 1, most}) {
            setting.of(grid, 2, size);
            edges.due("the size " + size, line.size(grid, 2), size);
        }
        edges.promise(promise, answer);
        edges.due("at first", setting.of(grid, 0, least), line.newSize);
        edges.due("of the least one", setting.of(grid, 0, most), least);
        edges.due("of the greatest one", setting.of(grid, 0, most), most);
        edges.promise(promise, parameter(line));
        MergeGrid greatest = Grids.greatest();
        for (int number = 0; number < line.most; number++) {
            edges.due("of the line " + number, setting.of(greatest, number, least), line.newSize);
            edges.due("of the line " + number + " then", line.size(greatest, number), least);
        }
        edges.promise(promise, "Throws `IndexOutOfBoundsException`");
        for (int count : new int[] {1, 4, line.most}) {
            for (int number : Edges.outside(0, count - 1)) {
                edges.dueThrow("of the line " + number + " of " + count, () -> line.used(count, 5), Edges.INDEX,
                        g -> setting.of(g, number, most));
                edges.dueThrow("too great for the line " + number, () -> line.used(count, 5), Edges.INDEX,
                        g -> setting.of(g, number, most + 1));
            }
        }
    }

    private void sizeOutOfRange(int promise, int least, int most, Setting setting) {
        edges.promise(promise, "Throws `IllegalArgumentException`");
        for (int size : Edges.outside(least, most)) {
            edges.dueThrow("the size " + size, () -> Grids.used(4, 4), Edges.ARGUMENT, grid -> setting.of(grid, 0, size));
            edges.dueThrow("the size " + size, () -> Grids.used(4, 4), Edges.ARGUMENT, grid -> setting.of(grid, 3, size));
        }
    }

    private static MergeGrid twoColumns(int width, int other) {
        MergeGrid grid = Grids.sized(1, 2);
        grid.setWidth(0, width);
        grid.setWidth(1, other);
        return grid;
    }

    private void drags() {
        edges.promise(35, "Drags the border behind a column");
        MergeGrid grid = Grids.greatest();
        grid.drag(8, 40);
        grid.drag(0, -40);
        grid.drag(4, 7);
        edges.due("widths then", Grids.widths(grid), "10 90 50 50 57 43 50 50 90 10");
        edges.promise(35, "`by`: the number");
        edges.due("0", twoColumns(50, 50).drag(0, 0), 50);
        edges.due("1", twoColumns(50, 50).drag(0, 1), 51);
        edges.due("-1", twoColumns(50, 50).drag(0, -1), 49);
        edges.due("as great as can be", twoColumns(10, 200).drag(0, 190), 200);
        edges.due("as little as can be", twoColumns(200, 10).drag(0, -190), 10);
        edges.promise(35, "Returns the width of the column after");
        edges.due("down to the least width", twoColumns(50, 50).drag(0, -40), 10);
        edges.due("up to the greatest width", twoColumns(199, 50).drag(0, 1), 200);
        edges.due("where the next one becomes the least", twoColumns(50, 50).drag(0, 40), 90);
        edges.due("where the next one becomes the greatest", twoColumns(50, 199).drag(0, -1), 49);
    }

    private void dragNumbers() {
        edges.promise(35, "`column`: the column, which is not the last one");
        for (int column = 0; column < 9; column++) {
            MergeGrid grid = Grids.greatest();
            edges.due("drag(" + column + ", 1)", grid.drag(column, 1), 51);
            edges.due("the next one", grid.widthOf(column + 1), 49);
        }
    }

    private void dragNoSuchColumn() {
        edges.promise(35, "Throws `IndexOutOfBoundsException`");
        for (int[] size : Edges.TABLES) {
            for (int column : Edges.outside(0, size[1] - 2)) {
                for (int by : new int[] {0, 1, 500, Integer.MIN_VALUE}) {
                    edges.dueThrow("drag(" + column + ", " + by + ") of " + size[1], () -> Grids.used(size[0], size[1]),
                            Edges.INDEX, grid -> grid.drag(column, by));
                }
            }
        }
    }

    private void dueRefusedDrag(int width, int other, int by) {
        edges.dueThrow("drag by " + by + " of " + width + " and " + other, () -> twoColumns(width, other),
                Edges.UNSUPPORTED, grid -> grid.drag(0, by));
    }

    private void dragOutOfRange() {
        edges.promise(35, "Throws `UnsupportedOperationException`");
        dueRefusedDrag(50, 50, 41);
        dueRefusedDrag(50, 50, -41);
        dueRefusedDrag(10, 50, -1);
        dueRefusedDrag(50, 10, 1);
        dueRefusedDrag(200, 50, 1);
        dueRefusedDrag(50, 200, -1);
        dueRefusedDrag(199, 50, 2);
        dueRefusedDrag(50, 199, -2);
        dueRefusedDrag(10, 200, 191);
        dueRefusedDrag(200, 10, -191);
        dueRefusedDrag(10, 10, 1);
        dueRefusedDrag(200, 200, -1);
        for (int by : new int[] {Integer.MIN_VALUE, Integer.MIN_VALUE + 1, Integer.MIN_VALUE + 50, Integer.MAX_VALUE,
            Integer.MAX_VALUE - 50, 65536, -65536, 256, -256, 1000, -1000}) {
            dueRefusedDrag(50, 50, by);
            dueRefusedDrag(10, 200, by);
            dueRefusedDrag(200, 10, by);
        }
    }

    private void evens() {
        edges.promise(36, "Makes the widths of neighbouring columns even");
        for (int rest = 0; rest < 10; rest++) {
            MergeGrid grid = Grids.greatest();
            grid.setWidth(9, 50 + rest);
            grid.even(0, 9);
            StringBuilder want = new StringBuilder();
            for (int column = 0; column < 10; column++) {
                want.append(column == 0 ? "" : " ").append(column < rest ? 51 : 50);
            }
            edges.due("with a rest of " + rest, Grids.widths(grid), want.toString());
        }
        dueEven(10, 10, "10 10");
        dueEven(10, 11, "11 10");
        dueEven(11, 10, "11 10");
        dueEven(200, 200, "200 200");
        dueEven(199, 200, "200 199");
        dueEven(10, 200, "105 105");
        dueEven(200, 11, "106 105");
        MergeGrid part = Grids.used(1, 5);
        part.setWidth(1, 10);
        part.setWidth(3, 11);
        part.even(1, 3);
        edges.due("of those between alone", Grids.widths(part), "51 25 25 24 55");
    }

    private void dueEven(int width, int other, String want) {
        MergeGrid grid = twoColumns(width, other);
        grid.even(0, 1);
        edges.due("of " + width + " and " + other, Grids.widths(grid), want);
    }

    private void evenNumbers() {
        for (int column = 0; column < 9; column++) {
            MergeGrid grid = Grids.greatest();
            grid.setWidth(column + 1, 150);
            edges.promise(36, "`column`: the first column");
            edges.due("even(" + column + ", " + (column + 1) + ")", grid.even(column, column + 1), 100);
            edges.promise(36, "`last`: the last column");
            edges.due("the last one", grid.widthOf(column + 1), 100);
        }
        edges.promise(36, "Returns the width of the first column");
        edges.due("with a rest", twoColumns(10, 11).even(0, 1), 11);
        edges.due("without a rest", twoColumns(10, 12).even(0, 1), 11);
        edges.due("of the greatest ones", twoColumns(200, 200).even(0, 1), 200);
        edges.due("of all", Grids.greatest().even(0, 9), 50);
    }

    private void evenNoSuchColumn() {
        edges.promise(36, "Throws `IndexOutOfBoundsException`");
        for (int[] size : Edges.TABLES) {
            int end = size[1] - 1;
            for (int column : Edges.outside(0, end)) {
                String call = column + " of " + size[1];
                edges.dueThrow("from " + call, () -> Grids.used(size[0], size[1]), Edges.INDEX,
                        grid -> grid.even(column, end));
                edges.dueThrow("from the first one to " + call, () -> Grids.used(size[0], size[1]), Edges.INDEX,
                        grid -> grid.even(0, column));
                edges.dueThrow("from the last one to " + call, () -> Grids.used(size[0], size[1]), Edges.INDEX,
                        grid -> grid.even(end, column));
                edges.dueThrow("from and to " + call, () -> Grids.used(size[0], size[1]), Edges.INDEX,
                        grid -> grid.even(column, column));
            }
        }
    }

    private void evenNotBehind() {
        edges.promise(36, "Throws `IllegalArgumentException`");
        for (int columns : new int[] {1, 2, 10}) {
            for (int column = 0; column < columns; column++) {
                for (int last = 0; last <= column; last++) {
                    int from = column;
                    int to = last;
                    edges.dueThrow("even(" + from + ", " + to + ") of " + columns, () -> Grids.used(2, columns),
                            Edges.ARGUMENT, grid -> grid.even(from, to));
                }
            }
        }
    }

    private void cellsAtPoints() {
        edges.promise(38, "Returns 100 times the row plus the column of its place.");
        edges.due("of the first square", new MergeGrid().cellAt(0, 0), 0);
        edges.due("of the last square", Grids.greatest().cellAt(499, 239), 1109);
        MergeGrid grid = Grids.merged(Grids.greatest(), 9, 8, 11, 9);
        edges.due("of a great cell", grid.cellAt(499, 239), 908);
        edges.due("of a great cell by its first point", grid.cellAt(400, 180), 908);
        edges.due("beside it", grid.cellAt(399, 180), 907);
        edges.due("above it", grid.cellAt(400, 179), 808);
        MergeGrid least = Grids.least();
        least.setWidth(0, 10);
        least.setHeight(0, 5);
        edges.due("of the least square", least.cellAt(9, 4), 0);
        MergeGrid most = Grids.greatest();
        for (int i = 0; i < 12; i++) {
            most.setHeight(i, 100);
            most.setWidth(i % 10, 200);
        }
        edges.due("of the greatest squares", most.cellAt(1999, 1199), 1109);
    }

    private void cellAtEveryBorder() {
        edges.promise(38, "Returns the cell that lies at a point");
        MergeGrid grid = Grids.used(12, 10);
        int x = 0;
        for (int column = 0; column < 10; column++) {
            edges.promise(38, "`x`: the number along the widths");
            edges.due("the first point of column " + column, grid.cellAt(x, 0), column);
            x += grid.widthOf(column);
            edges.promise(38, "Returns the cell that lies at a point");
            edges.due("the last point of column " + column, grid.cellAt(x - 1, 0), column);
        }
        int y = 0;
        for (int row = 0; row < 12; row++) {
            edges.promise(38, "`y`: the number along the heights");
            edges.due("the first point of row " + row, grid.cellAt(0, y), 100 * row);
            y += grid.heightOf(row);
            edges.promise(38, "Returns the cell that lies at a point");
            edges.due("the last point of row " + row, grid.cellAt(0, y - 1), 100 * row);
        }
    }

    private void noCellAtPoints() {
        edges.promise(38, "Throws `NoSuchElementException`");
        for (int[] size : Edges.TABLES) {
            MergeGrid grid = Grids.used(size[0], size[1]);
            int wide = 0;
            for (int column = 0; column < size[1]; column++) {
                wide += grid.widthOf(column);
            }
            int high = 0;
            for (int row = 0; row < size[0]; row++) {
                high += grid.heightOf(row);
            }
            for (int x : Edges.outside(0, wide - 1)) {
                dueNoCell(size, x, 0);
                dueNoCell(size, x, high - 1);
                dueNoCell(size, x, high);
                dueNoCell(size, x, -1);
            }
            for (int y : Edges.outside(0, high - 1)) {
                dueNoCell(size, 0, y);
                dueNoCell(size, wide - 1, y);
            }
        }
    }

    private void dueNoCell(int[] size, int x, int y) {
        edges.dueThrow("cellAt(" + x + ", " + y + ") of " + size[0] + "x" + size[1], () -> Grids.used(size[0], size[1]),
                NoSuchElementException.class, grid -> grid.cellAt(x, y));
    }
}
