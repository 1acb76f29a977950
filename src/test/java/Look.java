/** All that can be seen of a grid without changing it, as a text. */
final class Look {
    private Look() {
    }

    static String at(MergeGrid grid) {
        return table(grid) + selection(grid);
    }

    /** The part that taking back brings back. */
    static String table(MergeGrid grid) {
        StringBuilder text = new StringBuilder();
        text.append(grid.rows()).append('x').append(grid.columns()).append(" header ").append(grid.header());
        text.append(" cells ").append(grid.cellCount()).append(' ').append(grid.cellsBySquares());
        text.append(" merged ").append(grid.mergedShare()).append(" tiled ").append(grid.isTiled()).append('\n');
        for (int column = 0; column < grid.columns(); column++) {
            text.append(" w").append(grid.widthOf(column));
        }
        for (int row = 0; row < grid.rows(); row++) {
            text.append("\nh").append(grid.heightOf(row));
            for (int column = 0; column < grid.columns(); column++) {
                text.append(" | ").append(square(grid, row, column));
            }
        }
        return text.append('\n').toString();
    }

    static String square(MergeGrid grid, int row, int column) {
        return grid.topOf(row, column) + "," + grid.leftOf(row, column) + "+" + grid.rowsOf(row, column) + "x"
                + grid.columnsOf(row, column) + ":" + grid.contentAt(row, column) + "/" + grid.styleAt(row, column);
    }

    static String selection(MergeGrid grid) {
        return "" + grid.selected('t') + grid.selected('l') + ".." + grid.selected('b') + grid.selected('r')
                + " of " + grid.selectedCells() + " with " + grid.sum();
    }

    /** What no question tells: what would be taken back, and what was copied. It uses the grid up. */
    static String hidden(MergeGrid grid) {
        StringBuilder text = new StringBuilder();
        try {
            text.append(grid.takeBack()).append('\n').append(table(grid));
        } catch (IllegalStateException e) {
            text.append("nothing to take back\n");
        }
        makeBare(grid);
        try {
            text.append(grid.paste(0, 0, 1, 1)).append('\n').append(table(grid));
        } catch (IllegalStateException e) {
            text.append("nothing copied\n");
        }
        return text.toString();
    }

    /** The greatest table without contents, styles and header: whatever was copied can be pasted in it. */
    private static void makeBare(MergeGrid grid) {
        while (grid.rows() < 12) {
            grid.insertRow(0);
        }
        while (grid.columns() < 10) {
            grid.insertColumn(0);
        }
        grid.setHeader(0);
        grid.select(0, 0, 11, 9);
        grid.setStyle(0);
        if (grid.sum() > 0) {
            grid.clear();
        }
        if (grid.selectedCells() > 1) {
            grid.merge();
        }
        grid.split(0, 0, 's');
    }
}
