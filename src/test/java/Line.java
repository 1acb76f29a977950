/** Rows or columns: what the document says of rows holds for columns, too. */
enum Line {
    ROW("Row", 6, 8, 12, 10, 20),
    COLUMN("Column", 7, 9, 10, 12, 50);

    private final String name;
    final int insertPromise;
    final int deletePromise;
    final int most;
    final int mostAcross;
    final int newSize;

    Line(String name, int insertPromise, int deletePromise, int most, int mostAcross, int newSize) {
        this.name = name;
        this.insertPromise = insertPromise;
        this.deletePromise = deletePromise;
        this.most = most;
        this.mostAcross = mostAcross;
        this.newSize = newSize;
    }

    String call(String method, int number) {
        return method + name + "(" + number + ")";
    }

    private int row(int line, int across) {
        return this == ROW ? line : across;
    }

    private int column(int line, int across) {
        return this == ROW ? across : line;
    }

    int count(MergeGrid grid) {
        return this == ROW ? grid.rows() : grid.columns();
    }

    int insert(MergeGrid grid, int number) {
        return this == ROW ? grid.insertRow(number) : grid.insertColumn(number);
    }

    int delete(MergeGrid grid, int number) {
        return this == ROW ? grid.deleteRow(number) : grid.deleteColumn(number);
    }

    int size(MergeGrid grid, int number) {
        return this == ROW ? grid.heightOf(number) : grid.widthOf(number);
    }

    MergeGrid sized(int lines, int across) {
        return Grids.sized(row(lines, across), column(lines, across));
    }

    MergeGrid used(int lines, int across) {
        return Grids.used(row(lines, across), column(lines, across));
    }

    /** A cell of some lines and some squares across, with the content 7 and the style 3. */
    MergeGrid withCell(MergeGrid grid, int line, int across, int lastLine, int lastAcross) {
        grid.select(row(line, across), column(line, across), row(lastLine, lastAcross), column(lastLine, lastAcross));
        if (grid.sum() > 0) {
            grid.clear();
        }
        grid.setStyle(3);
        grid.merge();
        grid.setContent(row(line, across), column(line, across), 7);
        return grid;
    }

    /** Place, what is covered, content and style of the cell on a square, the lines first. */
    String square(MergeGrid grid, int line, int across) {
        int row = row(line, across);
        int column = column(line, across);
        int top = grid.topOf(row, column);
        int left = grid.leftOf(row, column);
        int rows = grid.rowsOf(row, column);
        int columns = grid.columnsOf(row, column);
        return row(top, left) + "," + column(top, left) + "+" + row(rows, columns) + "x" + column(rows, columns) + ":"
                + grid.contentAt(row, column) + "/" + grid.styleAt(row, column);
    }

    /** The contents of the first square of each line, 0 for a new one. */
    String contents(MergeGrid grid) {
        StringBuilder text = new StringBuilder();
        for (int line = 0; line < count(grid); line++) {
            text.append(line == 0 ? "" : " ").append(grid.contentAt(row(line, 0), column(line, 0)));
        }
        return text.toString();
    }

    /** So many lines of two squares, whose contents are the line's number and 1 more. */
    MergeGrid marked(int lines) {
        MergeGrid grid = sized(lines, 2);
        for (int line = 0; line < lines; line++) {
            grid.setContent(row(line, 0), column(line, 0), line + 1);
        }
        return grid;
    }
}
