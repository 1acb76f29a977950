import java.util.ArrayList;
import java.util.List;

/** The sentences of promises 1 to 10. */
final class LinesEdges {
    private final Edges edges;

    LinesEdges(Edges edges) {
        this.edges = edges;
    }

    void run() {
        newObject();
        numbersOfLines();
        numbersOfCells();
        for (Line line : Line.values()) {
            insertsInFront(line);
            insertNumber(line);
            insertAnswer(line);
            insertOutOfRange(line);
            insertWhereThereAreMost(line);
            deletes(line);
            deleteNumber(line);
            deleteAnswer(line);
            deleteNoSuchLine(line);
            deleteTheOnlyOne(line);
        }
        moves();
        moveNumbers();
        moveAnswer();
        moveNoSuchRow();
        moveToTheSame();
        moveTallCells();
        moveAcrossTheHeader();
    }

    private void newObject() {
        edges.promise(1, "Creates a table");
        MergeGrid grid = new MergeGrid();
        edges.due("rows()", grid.rows(), 4);
        edges.due("columns()", grid.columns(), 4);
        edges.due("the last square", Look.square(grid, 3, 3), "3,3+1x1:0/0");
        edges.due("a row behind it", Edges.outcome(grid, g -> g.topOf(4, 0)), "IndexOutOfBoundsException");
        edges.due("a column behind it", Edges.outcome(grid, g -> g.topOf(0, 4)), "IndexOutOfBoundsException");
    }

    private void numbersOfLines() {
        for (int[] size : Edges.TABLES) {
            MergeGrid grid = Grids.sized(size[0], size[1]);
            edges.promise(2, "Returns the number of rows.");
            edges.due("rows() of " + size[0] + "x" + size[1], grid.rows(), size[0]);
            edges.promise(3, "Returns the number of columns.");
            edges.due("columns() of " + size[0] + "x" + size[1], grid.columns(), size[1]);
        }
    }

    private void numbersOfCells() {
        for (int[] size : Edges.TABLES) {
            MergeGrid grid = Grids.sized(size[0], size[1]);
            dueCells("of " + size[0] + "x" + size[1], grid, size[0] * size[1]);
            Edges.outcome(grid, g -> Grids.merged(g, 0, 0, size[0] - 1, size[1] - 1));
            dueCells("of one cell as great as " + size[0] + "x" + size[1], grid, 1);
        }
        MergeGrid grid = Grids.merged(Grids.greatest(), 0, 0, 11, 8);
        dueCells("of a cell beside single ones", grid, 13);
    }

    private void dueCells(String when, MergeGrid grid, int want) {
        edges.promise(4, "Returns the number of cells, as they are kept.");
        edges.due("cellCount() " + when, grid.cellCount(), want);
        edges.promise(4, "Returns the number of cells.");
        edges.due("cellCount() again", grid.cellCount(), want);
        edges.promise(5, "Returns the same number");
        edges.due("cellsBySquares() " + when, grid.cellsBySquares(), grid.cellCount());
        edges.promise(5, "Returns the number of cells.");
        edges.due("cellsBySquares() " + when, grid.cellsBySquares(), want);
    }

    private void insertsInFront(Line line) {
        edges.promise(line.insertPromise, "Inserts a ");
        MergeGrid first = line.marked(4);
        line.insert(first, 0);
        edges.due("in front of the first", line.contents(first), "0 1 2 3 4");
        MergeGrid last = line.marked(4);
        line.insert(last, 3);
        edges.due("in front of the last", line.contents(last), "1 2 3 0 4");
        MergeGrid behind = line.marked(4);
        line.insert(behind, 4);
        edges.due("behind the last", line.contents(behind), "1 2 3 4 0");
    }

    private void insertNumber(Line line) {
        edges.promise(line.insertPromise, line == Line.ROW ? "`row`" : "`column`");
        for (int count : new int[] {1, 2, line.most - 1}) {
            for (int number = 0; number <= count; number++) {
                MergeGrid grid = line.marked(count);
                line.insert(grid, number);
                List<Integer> want = new ArrayList<>();
                for (int i = 1; i <= count; i++) {
                    want.add(i);
                }
                want.add(number, 0);
                String text = want.toString().replaceAll("[\\[\\],]", "");
                edges.due(line.call("insert", number) + " of " + count, line.contents(grid), text);
            }
        }
    }

    private void insertAnswer(Line line) {
        edges.promise(line.insertPromise, "Returns the number of cells after the call.");
        edges.due("in the least table", line.insert(Grids.least(), 0), 2);
        edges.due("to the most", line.insert(line.sized(line.most - 1, line.mostAcross), 0), 120);
        MergeGrid one = line.withCell(line.sized(3, 3), 0, 0, 2, 2);
        edges.due("inside of the only cell", line.insert(one, 1), 1);
        edges.due("in front of it", line.insert(one, 0), 4);
        edges.due("behind it", line.insert(one, 5), 7);
        MergeGrid part = line.withCell(line.sized(3, 3), 0, 0, 1, 1);
        edges.due("partly inside", line.insert(part, 1), 7);
    }

    private void insertOutOfRange(Line line) {
        edges.promise(line.insertPromise, "Throws `IndexOutOfBoundsException`");
        for (int count : new int[] {1, 4, line.most - 1, line.most}) {
            for (int number : Edges.outside(0, count)) {
                edges.dueThrow(line.call("insert", number) + " of " + count, () -> line.used(count, 3), Edges.INDEX,
                        grid -> line.insert(grid, number));
            }
        }
    }

    private void insertWhereThereAreMost(Line line) {
        edges.promise(line.insertPromise, "Throws `IllegalStateException`");
        for (int number = 0; number <= line.most; number++) {
            int at = number;
            edges.dueThrow(line.call("insert", at) + " of the most", () -> line.used(line.most, 2), Edges.STATE,
                    grid -> line.insert(grid, at));
        }
        MergeGrid full = line.sized(line.most, 1);
        line.delete(full, 0);
        edges.due("with one less", line.insert(full, line.most - 1), line.most);
        edges.due("then there are the most", line.count(full), line.most);
        MergeGrid other = line.sized(1, line.mostAcross);
        edges.due("where the other ones are the most", line.insert(other, 0), 2 * line.mostAcross);
    }

    private void deletes(Line line) {
        edges.promise(line.deletePromise, "Deletes a ");
        MergeGrid grid = line.marked(5);
        line.delete(grid, 4);
        edges.due("the last one", line.contents(grid), "1 2 3 4");
        line.delete(grid, 0);
        edges.due("the first one", line.contents(grid), "2 3 4");
        line.delete(grid, 1);
        edges.due("the one between", line.contents(grid), "2 4");
        for (int number = 0; number < line.most; number++) {
            MergeGrid used = line.used(line.most, 2);
            int size = line.size(used, 0);
            line.delete(used, number);
            for (int other = 0; other < line.most - 1; other++) {
                int old = other < number ? other : other + 1;
                edges.due("the size of " + old + " without " + number, line.size(used, other), size + old);
            }
        }
    }

    private void deleteNumber(Line line) {
        edges.promise(line.deletePromise, line == Line.ROW ? "`row`" : "`column`");
        for (int count : new int[] {2, line.most}) {
            for (int number = 0; number < count; number++) {
                MergeGrid grid = line.marked(count);
                line.delete(grid, number);
                StringBuilder want = new StringBuilder();
                for (int i = 0; i < count; i++) {
                    want.append(i == number ? "" : (i + 1) + " ");
                }
                edges.due(line.call("delete", number) + " of " + count, line.contents(grid), want.toString().strip());
            }
        }
    }

    private void deleteAnswer(Line line) {
        edges.promise(line.deletePromise, "Returns the number of cells that are deleted.");
        edges.due("in the greatest table", line.delete(Grids.greatest(), 0), line.mostAcross);
        edges.due("of single squares", line.delete(line.sized(2, 1), 1), 1);
        MergeGrid tall = line.withCell(line.sized(3, 3), 0, 0, 2, 2);
        edges.due("in the only cell", line.delete(tall, 2), 0);
        edges.due("in the only cell again", line.delete(tall, 0), 0);
        MergeGrid wide = line.withCell(line.sized(3, 3), 1, 0, 1, 2);
        edges.due("of one cell alone", line.delete(wide, 1), 1);
        MergeGrid part = line.withCell(line.sized(3, 3), 0, 0, 1, 1);
        edges.due("of a cell that stays, and one that goes", line.delete(part, 1), 1);
    }

    private void deleteNoSuchLine(Line line) {
        edges.promise(line.deletePromise, "Throws `IndexOutOfBoundsException`");
        for (int count : new int[] {1, 2, 4, line.most}) {
            for (int number : Edges.outside(0, count - 1)) {
                edges.dueThrow(line.call("delete", number) + " of " + count, () -> line.used(count, 3), Edges.INDEX,
                        grid -> line.delete(grid, number));
            }
        }
    }

    private void deleteTheOnlyOne(Line line) {
        edges.promise(line.deletePromise, "Throws `IllegalStateException`");
        for (int across : new int[] {1, 2, line.mostAcross}) {
            edges.dueThrow(line.call("delete", 0) + " of 1 with " + across, () -> line.used(1, across), Edges.STATE,
                    grid -> line.delete(grid, 0));
        }
        edges.dueThrow("of a wide cell", () -> line.withCell(line.sized(1, 3), 0, 0, 0, 2), Edges.STATE,
                grid -> line.delete(grid, 0));
        MergeGrid two = line.sized(2, 3);
        edges.due("of two", line.delete(two, 0), 3);
        edges.due("then there is one", line.count(two), 1);
    }

    private static MergeGrid rows(int count) {
        MergeGrid grid = Line.ROW.marked(count);
        for (int row = 0; row < count; row++) {
            grid.setContent(row, 1, 101 + row);
        }
        return grid;
    }

    private void dueMoved(int count, int row, int other, String want) {
        MergeGrid grid = rows(count);
        grid.moveRow(row, other);
        String call = "moveRow(" + row + ", " + other + ") of " + count;
        edges.due(call, Grids.contents(grid, 0), want);
        edges.due(call + ", the other column", Grids.contents(grid, 1), want.replaceAll("(\\d+)", "10$1"));
    }

    private void moves() {
        edges.promise(10, "Moves a row");
        dueMoved(5, 0, 4, "2 3 4 5 1");
        dueMoved(5, 4, 0, "5 1 2 3 4");
        dueMoved(5, 1, 3, "1 3 4 2 5");
        dueMoved(5, 3, 1, "1 4 2 3 5");
        MergeGrid wide = Grids.merged(Grids.sized(3, 3), 0, 1, 0, 2);
        wide.moveRow(0, 2);
        edges.due("a wide cell goes with its row", Look.square(wide, 2, 2), "2,1+1x2:0/0");
        edges.due("none is left behind", Look.square(wide, 0, 2), "0,2+1x1:0/0");
    }

    private void moveNumbers() {
        for (String parameter : new String[] {"`row`", "`other`"}) {
            edges.promise(10, parameter);
            boolean isRow = parameter.equals("`row`");
            dueMoved(2, isRow ? 0 : 1, isRow ? 1 : 0, "2 1");
            dueMoved(2, isRow ? 1 : 0, isRow ? 0 : 1, "2 1");
            for (int number = 0; number < 12; number++) {
                MergeGrid grid = rows(12);
                int far = number < 6 ? 11 : 0;
                grid.moveRow(isRow ? number : far, isRow ? far : number);
                int moved = isRow ? far : number;
                edges.due("the row " + number, grid.contentAt(moved, 0), isRow ? number + 1 : far + 1);
            }
        }
    }

    private void moveAnswer() {
        edges.promise(10, "Returns the number of rows");
        edges.due("of 2 rows", Grids.sized(2, 1).moveRow(1, 0), 2);
        edges.due("of neighbours", Grids.greatest().moveRow(5, 6), 2);
        edges.due("from the first to the last", Grids.greatest().moveRow(0, 11), 12);
        edges.due("from the last to the first", Grids.greatest().moveRow(11, 0), 12);
        edges.due("of equal rows", Grids.greatest().moveRow(3, 7), 5);
    }

    private void moveNoSuchRow() {
        edges.promise(10, "Throws `IndexOutOfBoundsException`");
        for (int count : new int[] {1, 4, 12}) {
            for (int number : Edges.outside(0, count - 1)) {
                String call = " of " + count + " with " + number;
                edges.dueThrow("row" + call, () -> Grids.used(count, 2), Edges.INDEX, grid -> grid.moveRow(number, 0));
                edges.dueThrow("other" + call, () -> Grids.used(count, 2), Edges.INDEX,
                        grid -> grid.moveRow(count - 1, number));
                edges.dueThrow("both" + call, () -> Grids.used(count, 2), Edges.INDEX,
                        grid -> grid.moveRow(number, number));
            }
        }
    }

    private void moveToTheSame() {
        edges.promise(10, "Throws `IllegalArgumentException`");
        for (int count : new int[] {1, 4, 12}) {
            for (int row = 0; row < count; row++) {
                int same = row;
                edges.dueThrow("row " + row + " of " + count, () -> Grids.used(count, 2), Edges.ARGUMENT,
                        grid -> grid.moveRow(same, same));
            }
        }
    }

    /** A tall cell in the rows 2 and 3 of 6. */
    private static MergeGrid tall() {
        return Line.ROW.withCell(Grids.sized(6, 3), 2, 1, 3, 1);
    }

    private void moveTallCells() {
        edges.promise(10, "Throws `UnsupportedOperationException`");
        int[][] refused = {{0, 2}, {2, 0}, {1, 2}, {2, 1}, {2, 3}, {3, 2}, {3, 4}, {4, 3}, {3, 5}, {5, 3}, {1, 4},
            {4, 1}, {0, 5}, {5, 0}};
        for (int[] move : refused) {
            edges.dueThrow("moveRow(" + move[0] + ", " + move[1] + ")", LinesEdges::tall, Edges.UNSUPPORTED,
                    grid -> grid.moveRow(move[0], move[1]));
        }
        int[][] taken = {{0, 1}, {1, 0}, {4, 5}, {5, 4}};
        for (int[] move : taken) {
            MergeGrid grid = tall();
            edges.due("moveRow(" + move[0] + ", " + move[1] + ") beside it", grid.moveRow(move[0], move[1]), 2);
            edges.due("the tall cell then", Look.square(grid, 3, 1), "2,1+2x1:7/3");
        }
    }

    private void moveAcrossTheHeader() {
        for (int header = 0; header <= 4; header++) {
            for (int row = 0; row < 4; row++) {
                for (int other = 0; other < 4; other++) {
                    if (row != other) {
                        dueHeaderMove(header, row, other);
                    }
                }
            }
        }
        edges.due("from the only row of the header", Edges.outcome(headed(1), g -> g.moveRow(0, 11)),
                "UnsupportedOperationException");
        edges.due("to the only row of the body", Edges.outcome(headed(11), g -> g.moveRow(0, 11)),
                "UnsupportedOperationException");
    }

    private static MergeGrid headed(int header) {
        MergeGrid grid = Grids.greatest();
        grid.setHeader(header);
        return grid;
    }

    private void dueHeaderMove(int header, int row, int other) {
        String call = "moveRow(" + row + ", " + other + ") with a header of " + header;
        if (row < header == other < header) {
            MergeGrid grid = rows(4);
            grid.setHeader(header);
            edges.due(call, grid.moveRow(row, other), Math.abs(row - other) + 1);
            edges.due(call + ", the moved row", grid.contentAt(other, 0), row + 1);
            edges.due(call + ", header()", grid.header(), header);
        } else {
            edges.dueThrow(call, () -> {
                MergeGrid grid = Grids.used(4, 2);
                grid.setHeader(header);
                return grid;
            }, Edges.UNSUPPORTED, grid -> grid.moveRow(row, other));
        }
    }
}
