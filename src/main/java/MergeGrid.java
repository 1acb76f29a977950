import java.util.Arrays;
import java.util.NoSuchElementException;

/**
 * An editor of a table whose cells can cover several rows and columns.
 *
 * <p>The public methods stand in the order of the document's promises. Each of them first looks at
 * everything that could make it throw, and only then remembers the table and changes it: so a call
 * that throws changes nothing. All rows of numbers and all cells are made by the constructor and
 * used again, because no call may cost room.
 */
public final class MergeGrid {
    private static final int MOST_ROWS = 12;
    private static final int MOST_COLUMNS = 10;
    private static final int MOST_CELLS = MOST_ROWS * MOST_COLUMNS;
    private static final int FIRST_ROWS = 4;
    private static final int FIRST_COLUMNS = 4;
    private static final int MOST_CONTENT = 999;
    private static final int MOST_STYLE = 9;
    private static final int MOST_TIMES = 4;
    private static final int LEAST_WIDTH = 10;
    private static final int MOST_WIDTH = 200;
    private static final int NEW_WIDTH = 50;
    private static final int LEAST_HEIGHT = 5;
    private static final int MOST_HEIGHT = 100;
    private static final int NEW_HEIGHT = 20;

    private Table now;
    private Table before;
    private boolean hasChange;
    private final Area selection;
    /** A rectangle that a call needs for itself alone. */
    private final Area sketch;
    private final Block block;

    public MergeGrid() {
        now = new Table();
        before = new Table();
        selection = new Area();
        sketch = new Area();
        block = new Block();
    }

    public int rows() {
        return now.rows;
    }

    public int columns() {
        return now.columns;
    }

    public int cellCount() {
        return now.cells.size;
    }

    public int cellsBySquares() {
        int count = 0;
        for (int row = 0; row < now.rows; row++) {
            for (int column = 0; column < now.columns; column++) {
                Cell cell = now.cellOn(row, column);
                if (cell.top == row && cell.left == column) {
                    count++;
                }
            }
        }
        return count;
    }

    public int insertRow(int row) throws IndexOutOfBoundsException, IllegalStateException {
        if (row < 0 || row > now.rows) {
            throw new IndexOutOfBoundsException("no such place for a row");
        }
        if (now.rows >= MOST_ROWS) {
            throw new IllegalStateException("no more rows");
        }
        remember();
        now.addRow(row);
        selectFirst();
        return now.cells.size;
    }

    public int insertColumn(int column) throws IndexOutOfBoundsException, IllegalStateException {
        if (column < 0 || column > now.columns) {
            throw new IndexOutOfBoundsException("no such place for a column");
        }
        if (now.columns >= MOST_COLUMNS) {
            throw new IllegalStateException("no more columns");
        }
        remember();
        now.addColumn(column);
        selectFirst();
        return now.cells.size;
    }

    public int deleteRow(int row) throws IndexOutOfBoundsException, IllegalStateException {
        checkRow(row);
        if (now.rows == 1) {
            throw new IllegalStateException("the only row");
        }
        remember();
        now.dropRow(row);
        selectFirst();
        return before.cells.size - now.cells.size;
    }

    public int deleteColumn(int column) throws IndexOutOfBoundsException, IllegalStateException {
        checkColumn(column);
        if (now.columns == 1) {
            throw new IllegalStateException("the only column");
        }
        remember();
        now.dropColumn(column);
        selectFirst();
        return before.cells.size - now.cells.size;
    }

    public int moveRow(int row, int other)
            throws IndexOutOfBoundsException, IllegalArgumentException, UnsupportedOperationException {
        checkRow(row);
        checkRow(other);
        if (row == other) {
            throw new IllegalArgumentException("the same row");
        }
        if (now.isInHeader(row) != now.isInHeader(other)) {
            throw new UnsupportedOperationException("from the header to the body or back");
        }
        if (now.cells.hasTall(Math.min(row, other), Math.max(row, other))) {
            throw new UnsupportedOperationException("a cell covers several rows");
        }
        remember();
        now.planMove(row, other);
        now.renumberRows();
        selectFirst();
        return now.movedRows();
    }

    public int topOf(int row, int column) throws IndexOutOfBoundsException {
        checkSquare(row, column);
        return now.cellOn(row, column).top;
    }

    public int leftOf(int row, int column) throws IndexOutOfBoundsException {
        checkSquare(row, column);
        return now.cellOn(row, column).left;
    }

    public int rowsOf(int row, int column) throws IndexOutOfBoundsException {
        checkSquare(row, column);
        return now.cellOn(row, column).rows;
    }

    public int columnsOf(int row, int column) throws IndexOutOfBoundsException {
        checkSquare(row, column);
        return now.cellOn(row, column).columns;
    }

    public int contentAt(int row, int column) throws IndexOutOfBoundsException {
        checkSquare(row, column);
        return now.cellOn(row, column).content;
    }

    public int styleAt(int row, int column) throws IndexOutOfBoundsException {
        checkSquare(row, column);
        return now.cellOn(row, column).style;
    }

    public int setContent(int row, int column, int content)
            throws IndexOutOfBoundsException, IllegalArgumentException {
        checkSquare(row, column);
        if (content < 0 || content > MOST_CONTENT) {
            throw new IllegalArgumentException("no such content");
        }
        remember();
        Cell cell = now.cellOn(row, column);
        int old = cell.content;
        cell.content = content;
        return old;
    }

    public int setStyle(int style) throws IllegalArgumentException {
        if (style < 0 || style > MOST_STYLE) {
            throw new IllegalArgumentException("no such style");
        }
        remember();
        return now.cells.paint(selection, style);
    }

    public int select(int row, int column, int otherRow, int otherColumn)
            throws IndexOutOfBoundsException {
        checkSquare(row, column);
        checkSquare(otherRow, otherColumn);
        selection.span(row, column, otherRow, otherColumn);
        now.growByCells(selection);
        return selection.squares();
    }

    public int selected(char side) throws IllegalArgumentException {
        if (side == 't') {
            return selection.top;
        }
        if (side == 'b') {
            return selection.bottom;
        }
        if (side == 'l') {
            return selection.left;
        }
        if (side == 'r') {
            return selection.right;
        }
        throw new IllegalArgumentException("no such side");
    }

    public int selectedCells() {
        return now.cells.countIn(selection);
    }

    public int squaresFor(int row, int column, int otherRow, int otherColumn)
            throws IndexOutOfBoundsException {
        checkSquare(row, column);
        checkSquare(otherRow, otherColumn);
        sketch.span(row, column, otherRow, otherColumn);
        now.growByBorders(sketch);
        return sketch.squares();
    }

    public int merge() throws IllegalStateException, UnsupportedOperationException {
        int merged = now.cells.countIn(selection);
        if (merged <= 1) {
            throw new IllegalStateException("only one cell");
        }
        if (now.cells.filledIn(selection) > 1) {
            throw new UnsupportedOperationException("several cells are not empty");
        }
        if (now.isInHeader(selection.top) != now.isInHeader(selection.bottom)) {
            throw new UnsupportedOperationException("in the header and in the body");
        }
        remember();
        now.join(selection);
        return merged;
    }

    public int split(int row, int column, char kind)
            throws IndexOutOfBoundsException, IllegalArgumentException, IllegalStateException {
        checkSquare(row, column);
        if (kind != 's' && kind != 'r' && kind != 'c') {
            throw new IllegalArgumentException("no such kind");
        }
        Cell cell = now.cellOn(row, column);
        int down = kind == 'c' ? 1 : cell.rows;
        int across = kind == 'r' ? 1 : cell.columns;
        if (down * across <= 1) {
            throw new IllegalStateException("only one part");
        }
        remember();
        now.part(cell, down, across);
        selectFirst();
        return down * across;
    }

    public int clear() throws IllegalStateException {
        int filled = now.cells.filledIn(selection);
        if (filled == 0) {
            throw new IllegalStateException("all of them are empty");
        }
        remember();
        now.cells.emptyIn(selection);
        return filled;
    }

    public int copy() {
        block.take(now.cells, selection);
        return block.cells.size;
    }

    public int paste(int row, int column, int down, int across)
            throws IndexOutOfBoundsException, IllegalArgumentException, IllegalStateException,
                    UnsupportedOperationException {
        checkSquare(row, column);
        if (!isTimes(down) || !isTimes(across)) {
            throw new IllegalArgumentException("no such number of times");
        }
        if (block.isNothing()) {
            throw new IllegalStateException("nothing was copied");
        }
        sketch.span(row, column, row + down * block.rows - 1, column + across * block.columns - 1);
        if (sketch.bottom >= now.rows || sketch.right >= now.columns) {
            throw new IllegalStateException("beyond the table");
        }
        if (now.cells.isCut(sketch)) {
            throw new UnsupportedOperationException("a cell lies there and elsewhere");
        }
        if (block.isAcross(now.header, row, down)) {
            throw new UnsupportedOperationException("in the header and in the body");
        }
        remember();
        now.put(block, sketch, down, across);
        selectFirst();
        return block.cells.size * down * across;
    }

    public int setHeader(int rows) throws IllegalArgumentException, UnsupportedOperationException {
        if (rows < 0 || rows > now.rows) {
            throw new IllegalArgumentException("no such number of rows");
        }
        if (now.cells.isAcross(rows)) {
            throw new UnsupportedOperationException("in the header and in the body");
        }
        remember();
        now.header = rows;
        return before.header;
    }

    public int header() {
        return now.header;
    }

    public int sort(int column, boolean isAscending)
            throws IndexOutOfBoundsException, UnsupportedOperationException {
        checkColumn(column);
        if (now.cells.hasTall(now.header, now.rows - 1)) {
            throw new UnsupportedOperationException("a cell covers several rows");
        }
        remember();
        now.planSort(column, isAscending);
        now.renumberRows();
        selectFirst();
        return now.movedRows();
    }

    public int widthOf(int column) throws IndexOutOfBoundsException {
        checkColumn(column);
        return now.widths[column];
    }

    public int heightOf(int row) throws IndexOutOfBoundsException {
        checkRow(row);
        return now.heights[row];
    }

    public int setWidth(int column, int width)
            throws IndexOutOfBoundsException, IllegalArgumentException {
        checkColumn(column);
        if (!isWidth(width)) {
            throw new IllegalArgumentException("no such width");
        }
        remember();
        now.widths[column] = width;
        return before.widths[column];
    }

    public int setHeight(int row, int height)
            throws IndexOutOfBoundsException, IllegalArgumentException {
        checkRow(row);
        if (height < LEAST_HEIGHT || height > MOST_HEIGHT) {
            throw new IllegalArgumentException("no such height");
        }
        remember();
        now.heights[row] = height;
        return before.heights[row];
    }

    public int drag(int column, int by)
            throws IndexOutOfBoundsException, UnsupportedOperationException {
        checkColumn(column);
        int next = column + 1;
        if (next >= now.columns) {
            throw new IndexOutOfBoundsException("the last column");
        }
        // A long, because the number may be so great that an int would wrap around into the range.
        long width = (long) now.widths[column] + by;
        long nextWidth = (long) now.widths[next] - by;
        if (!isWidth(width) || !isWidth(nextWidth)) {
            throw new UnsupportedOperationException("no such width");
        }
        remember();
        now.widths[column] = (int) width;
        now.widths[next] = (int) nextWidth;
        return now.widths[column];
    }

    public int even(int column, int last)
            throws IndexOutOfBoundsException, IllegalArgumentException {
        checkColumn(column);
        checkColumn(last);
        if (last <= column) {
            throw new IllegalArgumentException("not behind the first one");
        }
        remember();
        int count = last - column + 1;
        int sum = sumOf(now.widths, column, count);
        for (int i = 0; i < count; i++) {
            now.widths[column + i] = sum / count + (i < sum % count ? 1 : 0);
        }
        return now.widths[column];
    }

    public int sizeOf(int row, int column) throws IndexOutOfBoundsException {
        checkSquare(row, column);
        Cell cell = now.cellOn(row, column);
        return sumOf(now.widths, cell.left, cell.columns) * sumOf(now.heights, cell.top, cell.rows);
    }

    public int cellAt(int x, int y) throws NoSuchElementException {
        int column = lineAt(now.widths, now.columns, x);
        int row = lineAt(now.heights, now.rows, y);
        if (row < 0 || column < 0) {
            throw new NoSuchElementException("no cell lies there");
        }
        Cell cell = now.cellOn(row, column);
        return 100 * cell.top + cell.left;
    }

    public boolean takeBack() throws IllegalStateException {
        if (!hasChange) {
            throw new IllegalStateException("no change");
        }
        Table back = before;
        before = now;
        now = back;
        selectFirst();
        return now.cells.size == before.cells.size;
    }

    public long sum() {
        return now.cells.sumIn(selection);
    }

    public double mean() throws ArithmeticException {
        int filled = now.cells.filledIn(selection);
        if (filled == 0) {
            throw new ArithmeticException("all of them are empty");
        }
        return (double) now.cells.sumIn(selection) / (double) filled;
    }

    public float mergedShare() {
        int all = now.rows * now.columns;
        return all == 0 ? 0f : (float) now.cells.mergedSquares() / (float) all;
    }

    public boolean isTiled() {
        return now.isCoveredOnce() && !now.cells.isAcross(now.header);
    }

    private void checkRow(int row) {
        if (!now.hasRow(row)) {
            throw new IndexOutOfBoundsException("no such row");
        }
    }

    private void checkColumn(int column) {
        if (!now.hasColumn(column)) {
            throw new IndexOutOfBoundsException("no such column");
        }
    }

    private void checkSquare(int row, int column) {
        checkRow(row);
        checkColumn(column);
    }

    private static boolean isTimes(int times) {
        return times >= 1 && times <= MOST_TIMES;
    }

    private static boolean isWidth(long width) {
        return width >= LEAST_WIDTH && width <= MOST_WIDTH;
    }

    private void remember() {
        before.become(now);
        hasChange = true;
    }

    private void selectFirst() {
        selection.span(0, 0, 0, 0);
        now.growByCells(selection);
    }

    private static int sumOf(int[] sizes, int first, int count) {
        int sum = 0;
        for (int i = Math.max(first, 0); i < first + count && i < sizes.length; i++) {
            sum += sizes[i];
        }
        return sum;
    }

    /** The line in which a place lies, or -1. */
    private static int lineAt(int[] sizes, int count, int place) {
        if (place < 0) {
            return -1;
        }
        int end = 0;
        for (int i = 0; i < count && i < sizes.length; i++) {
            end += sizes[i];
            if (place < end) {
                return i;
            }
        }
        return -1;
    }

    /** A rectangle of squares, which has at least one. */
    private static final class Area {
        int top;
        int left;
        int bottom;
        int right;

        void span(int row, int column, int otherRow, int otherColumn) {
            top = Math.min(row, otherRow);
            left = Math.min(column, otherColumn);
            bottom = Math.max(row, otherRow);
            right = Math.max(column, otherColumn);
        }

        int squares() {
            return (bottom - top + 1) * (right - left + 1);
        }

        void takeIn(Cell cell) {
            top = Math.min(top, cell.top);
            left = Math.min(left, cell.left);
            bottom = Math.max(bottom, cell.bottom());
            right = Math.max(right, cell.right());
        }
    }

    /** A cell, with its place and what it covers. */
    private static final class Cell {
        int top;
        int left;
        int rows;
        int columns;
        int content;
        int style;

        void lie(int row, int column, int down, int across) {
            top = row;
            left = column;
            rows = down;
            columns = across;
        }

        void fill(int newContent, int newStyle) {
            content = newContent;
            style = newStyle;
        }

        void become(Cell other) {
            lie(other.top, other.left, other.rows, other.columns);
            fill(other.content, other.style);
        }

        int bottom() {
            return top + rows - 1;
        }

        int right() {
            return left + columns - 1;
        }

        boolean isWithin(Area area) {
            return top >= area.top && bottom() <= area.bottom
                    && left >= area.left && right() <= area.right;
        }

        boolean meets(Area area) {
            return top <= area.bottom && bottom() >= area.top
                    && left <= area.right && right() >= area.left;
        }

        /** Whether it has squares both in front of a row and from this row on. */
        boolean isAcross(int row) {
            return top < row && bottom() >= row;
        }

        void makeRoomForRow(int row) {
            if (top >= row) {
                top++;
            } else if (bottom() >= row) {
                rows++;
            }
        }

        void makeRoomForColumn(int column) {
            if (left >= column) {
                left++;
            } else if (right() >= column) {
                columns++;
            }
        }

        void loseRow(int row) {
            if (top > row) {
                top--;
            } else if (bottom() >= row) {
                rows--;
            }
        }

        void loseColumn(int column) {
            if (left > column) {
                left--;
            } else if (right() >= column) {
                columns--;
            }
        }
    }

    /** Cells in no special order; they are made once and used again. */
    private static final class CellList {
        int size;
        private final Cell[] cells = new Cell[MOST_CELLS];
        /** The answer where there is no cell, so that no reference is ever null. */
        private final Cell nowhere = new Cell();

        CellList() {
            for (int i = 0; i < cells.length; i++) {
                cells[i] = new Cell();
            }
        }

        Cell get(int number) {
            return number >= 0 && number < size ? cells[number] : nowhere;
        }

        Cell add(int row, int column, int down, int across) {
            if (size >= cells.length) {
                return nowhere;
            }
            Cell cell = cells[size];
            size++;
            cell.lie(row, column, down, across);
            cell.fill(0, 0);
            return cell;
        }

        /** Puts the last cell in its stead, so that a loop that removes has to run downwards. */
        void remove(int number) {
            if (number >= 0 && number < size) {
                Cell gone = cells[number];
                size--;
                cells[number] = cells[size];
                cells[size] = gone;
            }
        }

        void removeIn(Area area) {
            for (int i = size - 1; i >= 0; i--) {
                if (get(i).isWithin(area)) {
                    remove(i);
                }
            }
        }

        void removeVanished() {
            for (int i = size - 1; i >= 0; i--) {
                if (get(i).rows == 0 || get(i).columns == 0) {
                    remove(i);
                }
            }
        }

        void become(CellList other) {
            size = other.size;
            for (int i = 0; i < size; i++) {
                get(i).become(other.get(i));
            }
        }

        int countIn(Area area) {
            int count = 0;
            for (int i = 0; i < size; i++) {
                if (get(i).isWithin(area)) {
                    count++;
                }
            }
            return count;
        }

        int filledIn(Area area) {
            int count = 0;
            for (int i = 0; i < size; i++) {
                if (get(i).isWithin(area) && get(i).content != 0) {
                    count++;
                }
            }
            return count;
        }

        int sumIn(Area area) {
            int sum = 0;
            for (int i = 0; i < size; i++) {
                if (get(i).isWithin(area)) {
                    sum += get(i).content;
                }
            }
            return sum;
        }

        void emptyIn(Area area) {
            for (int i = 0; i < size; i++) {
                if (get(i).isWithin(area)) {
                    get(i).content = 0;
                }
            }
        }

        /** Answers how many cells get another style. */
        int paint(Area area, int style) {
            int changed = 0;
            for (int i = 0; i < size; i++) {
                Cell cell = get(i);
                if (cell.isWithin(area) && cell.style != style) {
                    cell.style = style;
                    changed++;
                }
            }
            return changed;
        }

        /** Whether a cell has squares both inside and outside of the area. */
        boolean isCut(Area area) {
            for (int i = 0; i < size; i++) {
                if (get(i).meets(area) && !get(i).isWithin(area)) {
                    return true;
                }
            }
            return false;
        }

        boolean isAcross(int row) {
            for (int i = 0; i < size; i++) {
                if (get(i).isAcross(row)) {
                    return true;
                }
            }
            return false;
        }

        /** Whether a cell covers several rows, one of which is among these. */
        boolean hasTall(int first, int last) {
            for (int i = 0; i < size; i++) {
                Cell cell = get(i);
                if (cell.rows > 1 && cell.top <= last && cell.bottom() >= first) {
                    return true;
                }
            }
            return false;
        }

        int mergedSquares() {
            int squares = 0;
            for (int i = 0; i < size; i++) {
                int covered = get(i).rows * get(i).columns;
                if (covered > 1) {
                    squares += covered;
                }
            }
            return squares;
        }
    }

    /** What was copied, counted from its own row 0 and column 0. */
    private static final class Block {
        int rows;
        int columns;
        final CellList cells = new CellList();

        boolean isNothing() {
            return rows == 0;
        }

        void take(CellList from, Area area) {
            rows = area.bottom - area.top + 1;
            columns = area.right - area.left + 1;
            cells.size = 0;
            for (int i = 0; i < from.size; i++) {
                Cell cell = from.get(i);
                if (cell.isWithin(area)) {
                    cells.add(cell.top - area.top, cell.left - area.left, cell.rows, cell.columns)
                            .fill(cell.content, cell.style);
                }
            }
        }

        /** Whether copies below one another, from a row on, would have a cell across a border. */
        boolean isAcross(int border, int row, int down) {
            for (int i = 0; i < down; i++) {
                if (cells.isAcross(border - row - i * rows)) {
                    return true;
                }
            }
            return false;
        }
    }

    /** All that taking back brings back. */
    private static final class Table {
        /** An area can become larger so often, and one pass more finds nothing to take in. */
        private static final int MOST_PASSES = MOST_ROWS + MOST_COLUMNS;

        int rows = FIRST_ROWS;
        int columns = FIRST_COLUMNS;
        int header;
        final int[] heights = new int[MOST_ROWS];
        final int[] widths = new int[MOST_COLUMNS];
        final CellList cells = new CellList();
        /** For each square the number of the cell that covers it, or -1. */
        private final int[] owners = new int[MOST_CELLS];
        /** For each row the number that it is to have. */
        private final int[] places = new int[MOST_ROWS];
        private final int[] oldHeights = new int[MOST_ROWS];

        Table() {
            Arrays.fill(heights, NEW_HEIGHT);
            Arrays.fill(widths, NEW_WIDTH);
            settle();
        }

        boolean hasRow(int row) {
            return row >= 0 && row < rows;
        }

        boolean hasColumn(int column) {
            return column >= 0 && column < columns;
        }

        boolean isInHeader(int row) {
            return row < header;
        }

        void become(Table other) {
            rows = other.rows;
            columns = other.columns;
            header = other.header;
            System.arraycopy(other.heights, 0, heights, 0, MOST_ROWS);
            System.arraycopy(other.widths, 0, widths, 0, MOST_COLUMNS);
            System.arraycopy(other.owners, 0, owners, 0, MOST_CELLS);
            cells.become(other.cells);
        }

        private int ownerOf(int row, int column) {
            return hasRow(row) && hasColumn(column) ? owners[row * MOST_COLUMNS + column] : -1;
        }

        private void setOwner(int row, int column, int number) {
            if (hasRow(row) && hasColumn(column)) {
                owners[row * MOST_COLUMNS + column] = number;
            }
        }

        Cell cellOn(int row, int column) {
            return cells.get(ownerOf(row, column));
        }

        /** Finds the owners anew after cells came, went or moved; bare squares become cells. */
        private void settle() {
            Arrays.fill(owners, -1);
            for (int i = 0; i < cells.size; i++) {
                own(i);
            }
            for (int row = 0; row < rows; row++) {
                for (int column = 0; column < columns; column++) {
                    if (ownerOf(row, column) < 0) {
                        setOwner(row, column, cells.size);
                        cells.add(row, column, 1, 1);
                    }
                }
            }
        }

        private void own(int number) {
            Cell cell = cells.get(number);
            for (int row = cell.top; row <= cell.bottom(); row++) {
                for (int column = cell.left; column <= cell.right(); column++) {
                    setOwner(row, column, number);
                }
            }
        }

        void addRow(int row) {
            for (int i = 0; i < cells.size; i++) {
                cells.get(i).makeRoomForRow(row);
            }
            insertSize(heights, row, NEW_HEIGHT);
            rows++;
            if (isInHeader(row)) {
                header++;
            }
            settle();
        }

        void addColumn(int column) {
            for (int i = 0; i < cells.size; i++) {
                cells.get(i).makeRoomForColumn(column);
            }
            insertSize(widths, column, NEW_WIDTH);
            columns++;
            settle();
        }

        void dropRow(int row) {
            for (int i = 0; i < cells.size; i++) {
                cells.get(i).loseRow(row);
            }
            cells.removeVanished();
            removeSize(heights, row);
            rows--;
            if (isInHeader(row)) {
                header--;
            }
            settle();
        }

        void dropColumn(int column) {
            for (int i = 0; i < cells.size; i++) {
                cells.get(i).loseColumn(column);
            }
            cells.removeVanished();
            removeSize(widths, column);
            columns--;
            settle();
        }

        private static void insertSize(int[] sizes, int line, int size) {
            for (int i = sizes.length - 1; i > line && i > 0; i--) {
                sizes[i] = sizes[i - 1];
            }
            if (line >= 0 && line < sizes.length) {
                sizes[line] = size;
            }
        }

        private static void removeSize(int[] sizes, int line) {
            for (int i = Math.max(line, 0); i + 1 < sizes.length; i++) {
                sizes[i] = sizes[i + 1];
            }
        }

        void planMove(int row, int other) {
            for (int i = 0; i < MOST_ROWS; i++) {
                if (i == row) {
                    places[i] = other;
                } else if (i > row && i <= other) {
                    places[i] = i - 1;
                } else if (i < row && i >= other) {
                    places[i] = i + 1;
                } else {
                    places[i] = i;
                }
            }
        }

        void planSort(int column, boolean isAscending) {
            for (int i = 0; i < MOST_ROWS; i++) {
                boolean isSorted = i >= header && i < rows;
                places[i] = isSorted ? header + rowsSortedBefore(i, column, isAscending) : i;
            }
        }

        private int rowsSortedBefore(int row, int column, boolean isAscending) {
            int content = cellOn(row, column).content;
            int count = 0;
            for (int i = header; i < rows; i++) {
                int other = cellOn(i, column).content;
                boolean isBefore = isAscending ? other < content : other > content;
                if (isBefore || other == content && i < row) {
                    count++;
                }
            }
            return count;
        }

        private int placeOf(int row) {
            return hasRow(row) ? places[row] : row;
        }

        int movedRows() {
            int count = 0;
            for (int i = 0; i < rows; i++) {
                if (placeOf(i) != i) {
                    count++;
                }
            }
            return count;
        }

        /** A cell moves with its first row: the plan moves no row of a cell that has several. */
        void renumberRows() {
            for (int i = 0; i < cells.size; i++) {
                cells.get(i).top = placeOf(cells.get(i).top);
            }
            System.arraycopy(heights, 0, oldHeights, 0, MOST_ROWS);
            for (int i = 0; i < rows; i++) {
                int place = placeOf(i);
                if (hasRow(place)) {
                    heights[place] = oldHeights[i];
                }
            }
            settle();
        }

        void growByCells(Area area) {
            int old = 0;
            for (int pass = 0; area.squares() > old && pass < MOST_PASSES; pass++) {
                old = area.squares();
                takeInCells(area);
            }
        }

        private void takeInCells(Area area) {
            for (int i = 0; i < cells.size; i++) {
                if (cells.get(i).meets(area)) {
                    area.takeIn(cells.get(i));
                }
            }
        }

        void growByBorders(Area area) {
            int old = 0;
            for (int pass = 0; area.squares() > old && pass < MOST_PASSES; pass++) {
                old = area.squares();
                takeInBorders(area);
            }
        }

        private void takeInBorders(Area area) {
            // The borders as they are at first: the area may grow while they are walked along.
            int top = area.top;
            int left = area.left;
            int bottom = area.bottom;
            int right = area.right;
            for (int row = top; row <= bottom; row++) {
                area.takeIn(cellOn(row, left));
                area.takeIn(cellOn(row, right));
            }
            for (int column = left; column <= right; column++) {
                area.takeIn(cellOn(top, column));
                area.takeIn(cellOn(bottom, column));
            }
        }

        /** Merges the cells of an area, of which one at most is not empty: so their sum is its content. */
        void join(Area area) {
            int content = cells.sumIn(area);
            int style = cellOn(area.top, area.left).style;
            int down = area.bottom - area.top + 1;
            int across = area.right - area.left + 1;
            cells.removeIn(area);
            cells.add(area.top, area.left, down, across).fill(content, style);
            settle();
        }

        /** Splits a cell into as many parts below and beside one another. */
        void part(Cell cell, int down, int across) {
            if (down < 1 || across < 1) {
                return;
            }
            int high = cell.rows / down;
            int wide = cell.columns / across;
            cell.lie(cell.top, cell.left, high, wide);
            for (int i = 1; i < down * across; i++) {
                int row = cell.top + i / across * high;
                int column = cell.left + i % across * wide;
                cells.add(row, column, high, wide).fill(0, cell.style);
            }
            settle();
        }

        /** Fills an area, which is as great as all these copies of the block together. */
        void put(Block block, Area area, int down, int across) {
            cells.removeIn(area);
            for (int i = 0; i < down; i++) {
                for (int j = 0; j < across; j++) {
                    putOne(block.cells, area.top + i * block.rows, area.left + j * block.columns);
                }
            }
            settle();
        }

        private void putOne(CellList copied, int row, int column) {
            for (int i = 0; i < copied.size; i++) {
                Cell cell = copied.get(i);
                cells.add(row + cell.top, column + cell.left, cell.rows, cell.columns)
                        .fill(cell.content, cell.style);
            }
        }

        /**
         * A square has one owner alone. So if each cell owns all squares that it covers, no two cells
         * share one, and if they cover as many squares as there are, none is bare.
         */
        boolean isCoveredOnce() {
            int covered = 0;
            for (int i = 0; i < cells.size; i++) {
                if (!ownsItsSquares(i)) {
                    return false;
                }
                covered += cells.get(i).rows * cells.get(i).columns;
            }
            return covered == rows * columns;
        }

        private boolean ownsItsSquares(int number) {
            Cell cell = cells.get(number);
            for (int row = cell.top; row <= cell.bottom(); row++) {
                for (int column = cell.left; column <= cell.right(); column++) {
                    if (ownerOf(row, column) != number) {
                        return false;
                    }
                }
            }
            return true;
        }
    }
}
