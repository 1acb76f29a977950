import java.util.Map;
import java.util.function.Consumer;

/** The sentences of the document's terms about the table, its cells and the selection. */
final class TermsEdges {
    private final Edges edges;

    TermsEdges(Edges edges) {
        this.edges = edges;
    }

    void run() {
        editsATable();
        takes512Calls();
        coversTheTable();
        numbersAndBounds();
        places();
        contentsAndStyles();
        selections();
        selectionsAfterChanges();
    }

    private void editsATable() {
        edges.terms("An editor of a table");
        MergeGrid grid = new MergeGrid();
        grid.select(0, 0, 0, 1);
        edges.due("merged", grid.merge(), 2);
        edges.due("split", grid.split(0, 1, 'c'), 2);
        edges.due("a row inserted", grid.insertRow(4), 20);
        edges.due("a row deleted", grid.deleteRow(4), 4);
        edges.due("a column inserted", grid.insertColumn(0), 20);
        edges.due("a column deleted", grid.deleteColumn(0), 4);
        edges.due("copied", grid.copy(), 1);
        edges.due("pasted", grid.paste(3, 3, 1, 1), 1);
        edges.due("dragged", grid.drag(0, -5), 45);
        grid.setHeader(1);
        grid.setContent(1, 0, 1);
        edges.due("sorted below its header", grid.sort(0, true), 3);
    }

    private void takes512Calls() {
        edges.terms("An object is used for at most 512 calls");
        MergeGrid grid = new MergeGrid();
        int[] contents = new int[16];
        for (int call = 1; call < 512; call++) {
            int square = call * 7 % 16;
            edges.due("call " + call, grid.setContent(square / 4, square % 4, call), contents[square]);
            contents[square] = call;
        }
        edges.due("call 512", grid.contentAt(1, 1), contents[5]);
        MergeGrid refused = new MergeGrid();
        for (int call = 1; call < 512; call++) {
            edges.due("refused call " + call, Edges.outcome(refused, MergeGrid::merge), "IllegalStateException");
        }
        edges.due("call 512 after them", refused.cellCount(), 16);
    }

    private void coversTheTable() {
        edges.terms("The cells always cover the table");
        for (Map.Entry<String, Consumer<MergeGrid>> change : Changes.all().entrySet()) {
            MergeGrid grid = Changes.begun();
            change.getValue().accept(grid);
            edges.due("after " + change.getKey(), uncovered(grid), 0);
            grid.takeBack();
            edges.due("after it was taken back", uncovered(grid), 0);
        }
        MergeGrid full = Grids.merged(Grids.merged(Grids.greatest(), 0, 0, 11, 3), 2, 4, 9, 9);
        edges.due("of the greatest table", uncovered(full), 0);
        full.deleteRow(0);
        full.deleteColumn(9);
        full.insertColumn(9);
        full.insertRow(11);
        edges.due("where the last lines went and came", uncovered(full), 0);
    }

    /** Squares that are not in the rectangle of their cell, or whose cell is told otherwise by its other squares. */
    private static int uncovered(MergeGrid grid) {
        int count = 0;
        int places = 0;
        for (int row = 0; row < grid.rows(); row++) {
            for (int column = 0; column < grid.columns(); column++) {
                String cell = Look.square(grid, row, column);
                int top = grid.topOf(row, column);
                int left = grid.leftOf(row, column);
                int below = grid.rowsOf(row, column) - (row - top);
                int beside = grid.columnsOf(row, column) - (column - left);
                boolean isInside = top <= row && left <= column && below >= 1 && beside >= 1;
                boolean ends = isInside && row + below <= grid.rows() && column + beside <= grid.columns();
                count += ends && Look.square(grid, top, left).equals(cell)
                        && Look.square(grid, row + below - 1, column + beside - 1).equals(cell) ? 0 : 1;
                places += top == row && left == column ? grid.rowsOf(row, column) * grid.columnsOf(row, column) : 0;
            }
        }
        return count + Math.abs(places - grid.rows() * grid.columns());
    }

    private void numbersAndBounds() {
        edges.terms("A table has rows and columns, numbered from 0");
        for (int[] size : Edges.TABLES) {
            MergeGrid grid = Grids.sized(size[0], size[1]);
            edges.due("the first square", grid.topOf(0, 0) + grid.leftOf(0, 0), 0);
            edges.due("the last square", grid.topOf(size[0] - 1, size[1] - 1), size[0] - 1);
            edges.due("row -1", Edges.outcome(grid, g -> g.topOf(-1, 0)), "IndexOutOfBoundsException");
            edges.due("column -1", Edges.outcome(grid, g -> g.topOf(0, -1)), "IndexOutOfBoundsException");
            edges.due("one row more", Edges.outcome(grid, g -> g.topOf(size[0], 0)), "IndexOutOfBoundsException");
            edges.due("one column more", Edges.outcome(grid, g -> g.topOf(0, size[1])), "IndexOutOfBoundsException");
        }
        edges.terms("It has 4 rows and 4 columns at first");
        MergeGrid grid = new MergeGrid();
        edges.due("at first", grid.rows() + "x" + grid.columns(), "4x4");
        edges.due("at most", Grids.greatest().rows() + "x" + Grids.greatest().columns(), "12x10");
        edges.due("a row more", Edges.outcome(Grids.greatest(), g -> g.insertRow(0)), "IllegalStateException");
        edges.due("a column more", Edges.outcome(Grids.greatest(), g -> g.insertColumn(0)), "IllegalStateException");
        edges.due("at least", Grids.least().rows() + "x" + Grids.least().columns(), "1x1");
        edges.due("a row less", Edges.outcome(Grids.least(), g -> g.deleteRow(0)), "IllegalStateException");
        edges.due("a column less", Edges.outcome(Grids.least(), g -> g.deleteColumn(0)), "IllegalStateException");
    }

    private void places() {
        edges.terms("A cell covers a rectangle of squares");
        MergeGrid grid = Grids.greatest();
        grid.select(11, 9, 10, 3);
        grid.merge();
        for (int row = 10; row < 12; row++) {
            for (int column = 3; column < 10; column++) {
                edges.due("by " + row + "," + column, Look.square(grid, row, column), "10,3+2x7:0/0");
            }
        }
        edges.terms("At first, each square is a cell of its own.");
        MergeGrid first = new MergeGrid();
        for (int i = 0; i < 16; i++) {
            String want = i / 4 + "," + i % 4 + "+1x1:0/0";
            edges.due("the square " + i, Look.square(first, i / 4, i % 4), want);
        }
        edges.terms("Cells are ordered by the rows");
        MergeGrid ordered = Grids.used(4, 4);
        ordered.setHeader(0);
        ordered.select(0, 0, 3, 3);
        ordered.clear();
        ordered.select(0, 1, 0, 1);
        ordered.setStyle(8);
        ordered.select(0, 0, 2, 0);
        ordered.setStyle(7);
        ordered.merge();
        ordered.select(0, 1, 3, 1);
        ordered.merge();
        edges.due("the first of a column", ordered.styleAt(3, 1), 8);
        ordered.select(3, 3, 0, 0);
        ordered.merge();
        edges.due("the first of all, which became one late", ordered.styleAt(3, 3), 7);
    }

    private void contentsAndStyles() {
        edges.terms("A cell has a content, a number from 0 to 999");
        MergeGrid grid = new MergeGrid();
        edges.due("0 at first", grid.contentAt(0, 0) + "/" + grid.styleAt(0, 0), "0/0");
        for (int number : new int[] {0, 1, 998, 999}) {
            edges.due("the content " + number, Edges.outcome(grid, g -> g.setContent(0, 0, number)), "no exception");
        }
        for (int number : Edges.outside(0, 999)) {
            edges.due("the content " + number, Edges.outcome(grid, g -> g.setContent(0, 0, number)),
                    "IllegalArgumentException");
        }
        for (int number : new int[] {0, 1, 8, 9}) {
            edges.due("the style " + number, Edges.outcome(grid, g -> g.setStyle(number)), "no exception");
        }
        for (int number : Edges.outside(0, 9)) {
            edges.due("the style " + number, Edges.outcome(grid, g -> g.setStyle(number)), "IllegalArgumentException");
        }
        edges.due("999 is not empty", grid.clear(), 1);
        grid.setContent(0, 0, 1);
        edges.due("1 is not empty", grid.clear(), 1);
        edges.due("0 is empty", Edges.outcome(grid, MergeGrid::clear), "IllegalStateException");
    }

    private void selections() {
        edges.terms("A rectangle of squares is selected.");
        MergeGrid grid = Grids.greatest();
        grid.select(2, 7, 9, 1);
        edges.due("by its corners", Look.selection(grid), "21..97 of 56 with 0");
        edges.terms("At first the square in the row 0 and the column 0 is selected.");
        edges.due("at first", Look.selection(new MergeGrid()), "00..00 of 1 with 0");
        edges.terms("When one is told, it grows");
        for (int from = 0; from < 9; from++) {
            MergeGrid stair = Grids.stair();
            stair.select(from + 1, from, from + 1, from + 1);
            String want = (from + 1) + "" + from + "..109 of ";
            edges.due("down the stair from " + from, Look.selection(stair).startsWith(want), true);
            stair.select(from, from, from, from + 1);
            String step = from + "" + from + ".." + from + (from + 1) + " of 1 with 0";
            edges.due("one step of it", Look.selection(stair), step);
        }
        MergeGrid back = Grids.merged(Grids.merged(Grids.merged(Grids.sized(4, 4), 2, 2, 3, 2), 1, 1, 2, 1), 0, 0, 1, 0);
        back.select(3, 0, 3, 2);
        edges.due("up by one cell after another", Look.selection(back), "00..32 of 9 with 0");
    }

    private void selectionsAfterChanges() {
        edges.terms("When rows or columns are inserted, deleted, moved or sorted");
        for (Map.Entry<String, Consumer<MergeGrid>> change : Changes.ofFirstSquare().entrySet()) {
            MergeGrid grid = Changes.begun();
            grid.select(3, 3, 2, 3);
            change.getValue().accept(grid);
            edges.due("after " + change.getKey(), Look.selection(grid).replaceAll(" with.*", ""), "00..00 of 1");
            grid.select(2, 2, 2, 2);
            grid.takeBack();
            edges.due("after it was taken back", Look.selection(grid), "00..00 of 1 with 1");
        }
        for (Map.Entry<String, Consumer<MergeGrid>> change : Changes.others().entrySet()) {
            MergeGrid grid = Changes.begun();
            grid.select(2, 1, 2, 2);
            change.getValue().accept(grid);
            Map<String, String> selecting = Map.of("clear", "00..33", "merge", "22..33");
            String want = selecting.getOrDefault(change.getKey(), "21..22");
            edges.due("after " + change.getKey(), Look.selection(grid).replaceAll(" .*", ""), want);
            grid.takeBack();
            edges.due("after it was taken back", Look.selection(grid).replaceAll(" with.*", ""), "00..00 of 1");
        }
        Map<String, Consumer<MergeGrid>> grown = Map.of("insertRow", g -> g.insertRow(4), "insertColumn",
                g -> g.insertColumn(1), "deleteRow", g -> g.deleteRow(3), "deleteColumn", g -> g.deleteColumn(0),
                "moveRow", g -> g.moveRow(2, 3), "split", g -> g.split(2, 3, 'c'), "paste", g -> g.paste(3, 0, 1, 1),
                "sort", g -> g.sort(0, true), "takeBack", MergeGrid::takeBack);
        for (Map.Entry<String, Consumer<MergeGrid>> change : grown.entrySet()) {
            MergeGrid grid = withFirstCell();
            change.getValue().accept(grid);
            String want = change.getKey().equals("insertColumn") ? "00..13" : change.getKey().equals("deleteColumn")
                    ? "00..11" : "00..12";
            edges.due("grown after " + change.getKey(), Look.selection(grid), want + " of 1 with 7");
        }
    }

    /** The first square belongs to a cell of the header; another cell, which is wide, and a copy are in the body. */
    private static MergeGrid withFirstCell() {
        MergeGrid grid = Line.ROW.withCell(Grids.sized(4, 4), 0, 0, 1, 2);
        Line.ROW.withCell(grid, 2, 1, 2, 3);
        grid.setHeader(2);
        grid.select(3, 3, 3, 3);
        grid.copy();
        grid.setStyle(5);
        return grid;
    }
}
