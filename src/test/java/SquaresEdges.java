/** The sentences of promises 11 to 18, 37, 42 and 43: what squares tell, and their contents and styles. */
final class SquaresEdges {
    private final Edges edges;

    SquaresEdges(Edges edges) {
        this.edges = edges;
    }

    private interface Asking {
        int of(MergeGrid grid, int row, int column);
    }

    void run() {
        ask(11, MergeGrid::topOf, "Returns the row of the place", "Returns the row.", 3, 2);
        ask(12, MergeGrid::leftOf, "Returns the column of the place", "Returns the column.", 2, 1);
        ask(13, MergeGrid::rowsOf, "Returns how many rows", "Returns the number of rows.", 9, 1);
        ask(14, MergeGrid::columnsOf, "Returns how many columns", "Returns the number of columns.", 8, 1);
        ask(15, MergeGrid::contentAt, "Returns the content of the cell", "Returns the content.", 7, 120);
        ask(16, MergeGrid::styleAt, "Returns the style of the cell", "Returns the style.", 3, 9);
        ask(37, MergeGrid::sizeOf, "Returns the area of the cell", "Returns the area.", 8 * 50 * 9 * 20, 50 * 20);
        sizesAtTheirEdges();
        setsContent();
        setContentOutOfRange();
        setsStyle();
        setStyleOutOfRange();
        mergedShare();
        isTiled();
    }

    /** The greatest table, with one cell of 9 rows and 8 columns that ends in its last square. */
    private static MergeGrid withGreatCell() {
        MergeGrid grid = Line.ROW.withCell(Grids.greatest(), 3, 2, 11, 9);
        grid.setContent(2, 1, 120);
        grid.select(2, 1, 2, 1);
        grid.setStyle(9);
        grid.select(0, 0, 0, 0);
        return grid;
    }

    /** What the great cell answers in each corner, and what the square at 2,1 in front of it answers. */
    private void ask(int promise, Asking asking, String words, String answer, int great, int single) {
        MergeGrid grid = withGreatCell();
        for (int[] at : new int[][] {{3, 2}, {3, 9}, {11, 2}, {11, 9}, {7, 5}}) {
            edges.promise(promise, words);
            edges.due("in the great cell at " + at[0] + "," + at[1], asking.of(grid, at[0], at[1]), great);
        }
        edges.promise(promise, answer);
        edges.due("beside the great cell", asking.of(grid, 2, 1), single);
        edges.promise(promise, "`row`: the row of the square");
        edges.due("in the first row", asking.of(grid, 0, 5), ofBareSquare(promise, 0, 5));
        edges.due("in the last row", asking.of(grid, 11, 1), ofBareSquare(promise, 11, 1));
        edges.promise(promise, "`column`: the column of the square");
        edges.due("in the first column", asking.of(grid, 5, 0), ofBareSquare(promise, 5, 0));
        edges.due("in the last column", asking.of(grid, 2, 9), ofBareSquare(promise, 2, 9));
        edges.due("in the only square", asking.of(Grids.least(), 0, 0), ofBareSquare(promise, 0, 0));
        edges.promise(promise, "Throws `IndexOutOfBoundsException`");
        noSuchSquare((g, row, column) -> asking.of(g, row, column));
    }

    private static int ofBareSquare(int promise, int row, int column) {
        switch (promise) {
            case 11:
                return row;
            case 12:
                return column;
            case 13:
            case 14:
                return 1;
            case 37:
                return 1000;
            default:
                return 0;
        }
    }

    /** Each of the two numbers is wrong alone, and both together. */
    static int[][] noSquares(int rows, int columns) {
        int[] noRows = Edges.outside(0, rows - 1);
        int[] noColumns = Edges.outside(0, columns - 1);
        int[][] squares = new int[noRows.length * 2 + noColumns.length][];
        for (int i = 0; i < noRows.length; i++) {
            squares[2 * i] = new int[] {noRows[i], columns - 1};
            squares[2 * i + 1] = new int[] {noRows[i], noColumns[i % noColumns.length]};
        }
        for (int i = 0; i < noColumns.length; i++) {
            squares[2 * noRows.length + i] = new int[] {rows - 1, noColumns[i]};
        }
        return squares;
    }

    private void noSuchSquare(Asking asking) {
        for (int[] size : Edges.TABLES) {
            for (int[] at : noSquares(size[0], size[1])) {
                edges.dueThrow("at " + at[0] + "," + at[1] + " of " + size[0] + "x" + size[1],
                        () -> Grids.used(size[0], size[1]), Edges.INDEX, grid -> asking.of(grid, at[0], at[1]));
            }
        }
    }

    private void sizesAtTheirEdges() {
        edges.promise(37, "Returns the area of the cell");
        MergeGrid grid = Grids.greatest();
        for (int i = 0; i < 12; i++) {
            grid.setHeight(i, 100);
            grid.setWidth(i % 10, 200);
        }
        edges.due("of one greatest square", grid.sizeOf(0, 0), 20000);
        Grids.merged(grid, 0, 0, 11, 9);
        edges.due("of all greatest squares", grid.sizeOf(6, 6), 2400000);
        MergeGrid least = Grids.least();
        least.setHeight(0, 5);
        least.setWidth(0, 10);
        edges.due("of the least square", least.sizeOf(0, 0), 50);
        MergeGrid used = Grids.used(4, 5);
        edges.due("of the last square", used.sizeOf(3, 4), 24 * 55);
        Line.ROW.withCell(used, 2, 0, 3, 2);
        edges.due("of more columns than rows", used.sizeOf(3, 1), (23 + 24) * (51 + 52 + 53));
        Line.ROW.withCell(used, 0, 4, 1, 4);
        edges.due("of more rows than columns", used.sizeOf(1, 4), (21 + 22) * 55);
    }

    private void setsContent() {
        MergeGrid grid = withGreatCell();
        edges.promise(17, "`row`: the row of the square");
        edges.due("in the first row", grid.setContent(0, 5, 1) + grid.contentAt(0, 5), 1);
        edges.due("in the last row", grid.setContent(11, 0, 2) + grid.contentAt(11, 0), 2);
        edges.promise(17, "`column`: the column of the square");
        edges.due("in the first column", grid.setContent(5, 0, 3) + grid.contentAt(5, 0), 3);
        edges.due("in the last column", grid.setContent(0, 9, 4) + grid.contentAt(0, 9), 4);
        edges.promise(17, "`content`: the content");
        for (int content : new int[] {0, 1, 998, 999}) {
            grid.setContent(2, 2, content);
            edges.due("the content " + content, grid.contentAt(2, 2), content);
        }
        edges.promise(17, "Sets the content of the cell");
        grid.setContent(11, 9, 555);
        edges.due("of a great cell, by its last square", grid.contentAt(3, 2), 555);
        grid.setContent(3, 2, 556);
        edges.due("of a great cell, by its first square", grid.contentAt(11, 9), 556);
        edges.due("not of its neighbour", grid.contentAt(2, 1), 120);
        edges.promise(17, "Returns the content before.");
        MergeGrid least = Grids.least();
        edges.due("of an empty cell", least.setContent(0, 0, 999), 0);
        edges.due("of the greatest content", least.setContent(0, 0, 0), 999);
        edges.due("of a cell that was emptied", least.setContent(0, 0, 0), 0);
        edges.promise(17, "Throws `IndexOutOfBoundsException`");
        noSuchSquare((g, row, column) -> g.setContent(row, column, 1));
    }

    private void setContentOutOfRange() {
        edges.promise(17, "Throws `IllegalArgumentException`");
        for (int content : Edges.outside(0, 999)) {
            edges.dueThrow("the content " + content, () -> Grids.used(4, 3), Edges.ARGUMENT,
                    grid -> grid.setContent(3, 2, content));
        }
    }

    private void setsStyle() {
        edges.promise(18, "Sets the style of all cells");
        MergeGrid grid = withGreatCell();
        grid.select(2, 1, 3, 2);
        grid.setStyle(5);
        edges.due("of the first one", grid.styleAt(2, 1), 5);
        edges.due("of a great one", grid.styleAt(11, 9), 5);
        edges.due("of one between", grid.styleAt(11, 1), 5);
        edges.due("not of one above", grid.styleAt(1, 1), 0);
        edges.due("not of one beside", grid.styleAt(2, 0), 0);
        edges.promise(18, "`style`: the style");
        for (int style : new int[] {9, 8, 1, 0}) {
            grid.setStyle(style);
            edges.due("the style " + style, grid.styleAt(11, 9), style);
        }
        edges.promise(18, "Returns the number of cells");
        edges.due("of none", grid.setStyle(0), 0);
        edges.due("of all that are selected", grid.setStyle(9), 1 + 8 + 9 + 1);
        grid.select(2, 1, 2, 1);
        edges.due("of one that has it", grid.setStyle(9), 0);
        edges.due("of one that has it not", grid.setStyle(0), 1);
        grid.select(0, 0, 11, 9);
        edges.due("of all but those that have it", grid.setStyle(9), 120 - 72 + 1 - 18);
        MergeGrid greatest = Grids.greatest();
        greatest.select(0, 0, 11, 9);
        edges.due("of the greatest table", greatest.setStyle(1), 120);
        edges.due("of the least table", Grids.least().setStyle(1), 1);
    }

    private void setStyleOutOfRange() {
        edges.promise(18, "Throws `IllegalArgumentException`");
        for (int style : Edges.outside(0, 9)) {
            edges.dueThrow("the style " + style, () -> Grids.used(4, 3), Edges.ARGUMENT, grid -> grid.setStyle(style));
        }
    }

    private void mergedShare() {
        edges.promise(42, "Returns the share of the squares");
        edges.due("of none", Grids.greatest().mergedShare(), 0f);
        edges.due("of the only square", Grids.least().mergedShare(), 0f);
        edges.due("of all", Grids.merged(Grids.greatest(), 0, 0, 11, 9).mergedShare(), 1f);
        edges.due("of two", Grids.merged(Grids.sized(1, 2), 0, 0, 0, 1).mergedShare(), 1f);
        edges.promise(42, "Returns their number divided");
        edges.due("of the least cell in the greatest table", Grids.merged(Grids.greatest(), 11, 8, 11, 9).mergedShare(),
                2f / 120f);
        edges.due("of all but one", Grids.merged(Grids.sized(1, 10), 0, 1, 0, 9).mergedShare(), 9f / 10f);
        MergeGrid two = Grids.merged(Grids.merged(Grids.sized(7, 3), 0, 0, 1, 1), 4, 2, 6, 2);
        edges.due("of two cells", two.mergedShare(), 7f / 21f);
        edges.due("the float that is nearest to a third", (double) two.mergedShare(), 0.3333333432674408);
    }

    private void isTiled() {
        edges.promise(43, "Checks whether each square");
        for (int[] size : Edges.TABLES) {
            MergeGrid grid = Grids.sized(size[0], size[1]);
            edges.due("of " + size[0] + "x" + size[1], grid.isTiled(), true);
            Edges.outcome(grid, g -> Grids.merged(g, 0, 0, size[0] - 1, size[1] - 1));
            grid.setHeader(size[0]);
            edges.due("of one cell in the header", grid.isTiled(), true);
        }
        edges.promise(43, "Returns whether both hold.");
        MergeGrid headed = Grids.merged(Grids.merged(Grids.sized(10, 10), 0, 0, 5, 9), 6, 0, 9, 9);
        headed.setHeader(6);
        edges.due("of a cell above the border, and one below", headed.isTiled(), true);
        headed.insertRow(6);
        headed.insertRow(5);
        edges.due("where rows came at the border", headed.isTiled(), true);
        headed.deleteRow(6);
        edges.due("where the last row of the header went", headed.isTiled(), true);
        headed.deleteRow(6);
        edges.due("where the first row of the body went", headed.isTiled(), true);
        headed.takeBack();
        edges.due("where it came back", headed.isTiled(), true);
    }
}
