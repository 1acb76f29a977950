import java.util.ArrayList;
import java.util.Arrays;
import java.util.Collections;
import java.util.Comparator;
import java.util.HashMap;
import java.util.HashSet;
import java.util.List;
import java.util.Map;
import java.util.NoSuchElementException;
import java.util.Set;

/**
 * The document once more, for RandomRunsTest, as differently from MergeGrid as can be: each square bears
 * the name of its cell, and all else about a cell is found by looking at all squares.
 */
final class Model {
    private static final class Ink {
        int content;
        int style;

        Ink(int content, int style) {
            this.content = content;
            this.style = style;
        }
    }

    private static final class Row {
        int height = 20;
        List<Integer> names = new ArrayList<>();
    }

    private static final class State {
        List<Row> rows = new ArrayList<>();
        List<Integer> widths = new ArrayList<>();
        Map<Integer, Ink> inks = new HashMap<>();
        int header;

        State twin() {
            State twin = new State();
            for (Row row : rows) {
                Row other = new Row();
                other.height = row.height;
                other.names.addAll(row.names);
                twin.rows.add(other);
            }
            twin.widths.addAll(widths);
            inks.forEach((name, ink) -> twin.inks.put(name, new Ink(ink.content, ink.style)));
            twin.header = header;
            return twin;
        }
    }

    private State state = new State();
    private State saved;
    private int lastName;
    private int top;
    private int left;
    private int bottom;
    private int right;
    private List<List<Integer>> clip;
    private Map<Integer, Ink> clipInks;

    Model() {
        for (int i = 0; i < 4; i++) {
            state.widths.add(50);
            Row row = new Row();
            for (int j = 0; j < 4; j++) {
                row.names.add(fresh(0, 0));
            }
            state.rows.add(row);
        }
    }

    private int fresh(int content, int style) {
        lastName++;
        state.inks.put(lastName, new Ink(content, style));
        return lastName;
    }

    private int name(int row, int column) {
        return state.rows.get(row).names.get(column);
    }

    private Ink ink(int row, int column) {
        return state.inks.get(name(row, column));
    }

    private void needRow(int row) {
        if (row < 0 || row >= rows()) {
            throw new IndexOutOfBoundsException();
        }
    }

    private void needColumn(int column) {
        if (column < 0 || column >= columns()) {
            throw new IndexOutOfBoundsException();
        }
    }

    private void needSquare(int row, int column) {
        needRow(row);
        needColumn(column);
    }

    private static void needArgument(boolean holds) {
        if (!holds) {
            throw new IllegalArgumentException();
        }
    }

    private static void needState(boolean holds) {
        if (!holds) {
            throw new IllegalStateException();
        }
    }

    private static void needSupport(boolean holds) {
        if (!holds) {
            throw new UnsupportedOperationException();
        }
    }

    private void change() {
        saved = state.twin();
    }

    private void reselect() {
        grow(new int[] {0, 0, 0, 0}, true);
    }

    /** Names of the squares in a rectangle, in their order. */
    private List<Integer> namesIn(int t, int l, int b, int r) {
        List<Integer> names = new ArrayList<>();
        for (int row = t; row <= b; row++) {
            for (int column = l; column <= r; column++) {
                if (!names.contains(name(row, column))) {
                    names.add(name(row, column));
                }
            }
        }
        return names;
    }

    private List<Integer> selectedNames() {
        return namesIn(top, left, bottom, right);
    }

    private Set<Integer> rowsWith(int name) {
        Set<Integer> found = new HashSet<>();
        for (int row = 0; row < rows(); row++) {
            if (state.rows.get(row).names.contains(name)) {
                found.add(row);
            }
        }
        return found;
    }

    private Set<Integer> columnsWith(int name) {
        Set<Integer> found = new HashSet<>();
        for (Row row : state.rows) {
            for (int column = 0; column < columns(); column++) {
                if (row.names.get(column) == name) {
                    found.add(column);
                }
            }
        }
        return found;
    }

    private boolean isTall(int row) {
        return state.rows.get(row).names.stream().anyMatch(name -> rowsWith(name).size() > 1);
    }

    private void forget() {
        Set<Integer> used = new HashSet<>(namesIn(0, 0, rows() - 1, columns() - 1));
        state.inks.keySet().retainAll(used);
    }

    int rows() {
        return state.rows.size();
    }

    int columns() {
        return state.widths.size();
    }

    int cellCount() {
        return state.inks.size();
    }

    int cellsBySquares() {
        return namesIn(0, 0, rows() - 1, columns() - 1).size();
    }

    int insertRow(int row) {
        if (row < 0 || row > rows()) {
            throw new IndexOutOfBoundsException();
        }
        needState(rows() < 12);
        change();
        Row added = new Row();
        for (int column = 0; column < columns(); column++) {
            boolean isInside = row > 0 && row < rows() && name(row - 1, column) == name(row, column);
            added.names.add(isInside ? name(row, column) : fresh(0, 0));
        }
        state.rows.add(row, added);
        if (row < state.header) {
            state.header++;
        }
        reselect();
        return cellCount();
    }

    int insertColumn(int column) {
        if (column < 0 || column > columns()) {
            throw new IndexOutOfBoundsException();
        }
        needState(columns() < 10);
        change();
        boolean isBetween = column > 0 && column < columns();
        for (Row row : state.rows) {
            boolean isInside = isBetween && row.names.get(column - 1).equals(row.names.get(column));
            row.names.add(column, isInside ? row.names.get(column) : null);
        }
        for (Row row : state.rows) {
            if (row.names.get(column) == null) {
                row.names.set(column, fresh(0, 0));
            }
        }
        state.widths.add(column, 50);
        reselect();
        return cellCount();
    }

    int deleteRow(int row) {
        needRow(row);
        needState(rows() > 1);
        change();
        state.rows.remove(row);
        if (row < state.header) {
            state.header--;
        }
        int before = cellCount();
        forget();
        reselect();
        return before - cellCount();
    }

    int deleteColumn(int column) {
        needColumn(column);
        needState(columns() > 1);
        change();
        state.widths.remove(column);
        state.rows.forEach(row -> row.names.remove(column));
        int before = cellCount();
        forget();
        reselect();
        return before - cellCount();
    }

    int moveRow(int row, int other) {
        needRow(row);
        needRow(other);
        needArgument(row != other);
        for (int i = Math.min(row, other); i <= Math.max(row, other); i++) {
            needSupport(!isTall(i));
        }
        needSupport((row < state.header) == (other < state.header));
        change();
        state.rows.add(other, state.rows.remove(row));
        reselect();
        return Math.abs(row - other) + 1;
    }

    int topOf(int row, int column) {
        needSquare(row, column);
        return Collections.min(rowsWith(name(row, column)));
    }

    int leftOf(int row, int column) {
        needSquare(row, column);
        return Collections.min(columnsWith(name(row, column)));
    }

    int rowsOf(int row, int column) {
        needSquare(row, column);
        return rowsWith(name(row, column)).size();
    }

    int columnsOf(int row, int column) {
        needSquare(row, column);
        return columnsWith(name(row, column)).size();
    }

    int contentAt(int row, int column) {
        needSquare(row, column);
        return ink(row, column).content;
    }

    int styleAt(int row, int column) {
        needSquare(row, column);
        return ink(row, column).style;
    }

    int setContent(int row, int column, int content) {
        needSquare(row, column);
        needArgument(content >= 0 && content < 1000);
        change();
        int old = ink(row, column).content;
        ink(row, column).content = content;
        return old;
    }

    int setStyle(int style) {
        needArgument(style >= 0 && style < 10);
        change();
        int count = 0;
        for (int name : selectedNames()) {
            count += state.inks.get(name).style == style ? 0 : 1;
            state.inks.get(name).style = style;
        }
        return count;
    }

    private int grow(int[] area, boolean isKept) {
        boolean isOpen = true;
        while (isOpen) {
            isOpen = false;
            for (int name : namesIn(area[0], area[1], area[2], area[3])) {
                int[] next = {Math.min(area[0], Collections.min(rowsWith(name))),
                    Math.min(area[1], Collections.min(columnsWith(name))),
                    Math.max(area[2], Collections.max(rowsWith(name))),
                    Math.max(area[3], Collections.max(columnsWith(name)))};
                isOpen |= !Arrays.equals(area, next);
                area = next;
            }
        }
        if (isKept) {
            top = area[0];
            left = area[1];
            bottom = area[2];
            right = area[3];
        }
        return (area[2] - area[0] + 1) * (area[3] - area[1] + 1);
    }

    private static int[] area(int row, int column, int otherRow, int otherColumn) {
        return new int[] {Math.min(row, otherRow), Math.min(column, otherColumn),
            Math.max(row, otherRow), Math.max(column, otherColumn)};
    }

    int select(int row, int column, int otherRow, int otherColumn) {
        needSquare(row, column);
        needSquare(otherRow, otherColumn);
        return grow(area(row, column, otherRow, otherColumn), true);
    }

    int selected(char side) {
        needArgument("tblr".indexOf(side) >= 0);
        return side == 't' ? top : side == 'b' ? bottom : side == 'l' ? left : right;
    }

    int selectedCells() {
        return selectedNames().size();
    }

    int squaresFor(int row, int column, int otherRow, int otherColumn) {
        needSquare(row, column);
        needSquare(otherRow, otherColumn);
        return grow(area(row, column, otherRow, otherColumn), false);
    }

    private long filled() {
        return selectedNames().stream().filter(name -> state.inks.get(name).content != 0).count();
    }

    int merge() {
        List<Integer> names = selectedNames();
        needState(names.size() > 1);
        needSupport(filled() <= 1);
        needSupport(bottom < state.header || top >= state.header);
        change();
        int content = (int) sum();
        int name = fresh(content, state.inks.get(names.get(0)).style);
        for (int row = top; row <= bottom; row++) {
            for (int column = left; column <= right; column++) {
                state.rows.get(row).names.set(column, name);
            }
        }
        forget();
        return names.size();
    }

    int split(int row, int column, char kind) {
        needSquare(row, column);
        needArgument("src".indexOf(kind) >= 0);
        int name = name(row, column);
        List<Integer> high = new ArrayList<>(rowsWith(name));
        List<Integer> wide = new ArrayList<>(columnsWith(name));
        Collections.sort(high);
        Collections.sort(wide);
        int parts = (kind == 'c' ? 1 : high.size()) * (kind == 'r' ? 1 : wide.size());
        needState(parts > 1);
        change();
        int style = ink(row, column).style;
        Map<String, Integer> news = new HashMap<>();
        for (int r : high) {
            for (int c : wide) {
                String key = (kind == 'c' ? "" : "r" + r) + (kind == 'r' ? "" : "c" + c);
                if (news.isEmpty()) {
                    news.put(key, name);
                } else if (!news.containsKey(key)) {
                    news.put(key, fresh(0, style));
                }
                state.rows.get(r).names.set(c, news.get(key));
            }
        }
        reselect();
        return parts;
    }

    int clear() {
        int count = (int) filled();
        needState(count > 0);
        change();
        selectedNames().forEach(name -> state.inks.get(name).content = 0);
        return count;
    }

    int copy() {
        clip = new ArrayList<>();
        clipInks = new HashMap<>();
        for (int row = top; row <= bottom; row++) {
            clip.add(new ArrayList<>(state.rows.get(row).names.subList(left, right + 1)));
        }
        selectedNames().forEach(name -> {
            Ink ink = state.inks.get(name);
            clipInks.put(name, new Ink(ink.content, ink.style));
        });
        return clipInks.size();
    }

    int paste(int row, int column, int down, int across) {
        needSquare(row, column);
        needArgument(down >= 1 && down <= 4 && across >= 1 && across <= 4);
        needState(clip != null);
        int endRow = row + down * clip.size();
        int endColumn = column + across * clip.get(0).size();
        needState(endRow <= rows() && endColumn <= columns());
        for (int name : namesIn(row, column, endRow - 1, endColumn - 1)) {
            needSupport(Collections.min(rowsWith(name)) >= row && Collections.max(rowsWith(name)) < endRow);
            needSupport(Collections.min(columnsWith(name)) >= column);
            needSupport(Collections.max(columnsWith(name)) < endColumn);
        }
        if (state.header > row && state.header < endRow) {
            int border = (state.header - row) % clip.size();
            for (int i = 0; border > 0 && i < clip.get(0).size(); i++) {
                needSupport(!clip.get(border - 1).get(i).equals(clip.get(border).get(i)));
            }
        }
        change();
        Map<String, Integer> news = new HashMap<>();
        for (int r = row; r < endRow; r++) {
            for (int c = column; c < endColumn; c++) {
                int copied = clip.get((r - row) % clip.size()).get((c - column) % clip.get(0).size());
                String key = (r - row) / clip.size() + "," + (c - column) / clip.get(0).size() + "," + copied;
                Ink ink = clipInks.get(copied);
                news.computeIfAbsent(key, k -> fresh(ink.content, ink.style));
                state.rows.get(r).names.set(c, news.get(key));
            }
        }
        forget();
        reselect();
        return news.size();
    }

    int setHeader(int rows) {
        needArgument(rows >= 0 && rows <= rows());
        for (int column = 0; rows > 0 && rows < rows() && column < columns(); column++) {
            needSupport(name(rows - 1, column) != name(rows, column));
        }
        change();
        int old = state.header;
        state.header = rows;
        return old;
    }

    int header() {
        return state.header;
    }

    int sort(int column, boolean isAscending) {
        needColumn(column);
        for (int row = state.header; row < rows(); row++) {
            needSupport(!isTall(row));
        }
        change();
        Comparator<Row> order = Comparator.comparing(row -> state.inks.get(row.names.get(column)).content);
        List<Row> old = new ArrayList<>(state.rows);
        state.rows.subList(state.header, rows()).sort(isAscending ? order : order.reversed());
        int count = 0;
        for (int row = 0; row < rows(); row++) {
            count += old.get(row) == state.rows.get(row) ? 0 : 1;
        }
        reselect();
        return count;
    }

    int widthOf(int column) {
        needColumn(column);
        return state.widths.get(column);
    }

    int heightOf(int row) {
        needRow(row);
        return state.rows.get(row).height;
    }

    int setWidth(int column, int width) {
        needColumn(column);
        needArgument(width >= 10 && width <= 200);
        change();
        return state.widths.set(column, width);
    }

    int setHeight(int row, int height) {
        needRow(row);
        needArgument(height >= 5 && height <= 100);
        change();
        int old = state.rows.get(row).height;
        state.rows.get(row).height = height;
        return old;
    }

    int drag(int column, int by) {
        needColumn(column);
        needColumn(column + 1);
        needSupport(Math.abs((long) by) <= 190);
        int width = widthOf(column) + by;
        int next = widthOf(column + 1) - by;
        needSupport(Math.min(width, next) >= 10 && Math.max(width, next) <= 200);
        change();
        state.widths.set(column, width);
        state.widths.set(column + 1, next);
        return width;
    }

    int even(int column, int last) {
        needColumn(column);
        needColumn(last);
        needArgument(last > column);
        change();
        int rest = 0;
        for (int i = column; i <= last; i++) {
            rest += widthOf(i);
        }
        for (int i = column; i <= last; i++) {
            int many = last - i + 1;
            int width = (rest + many - 1) / many;
            state.widths.set(i, width);
            rest -= width;
        }
        return widthOf(column);
    }

    int sizeOf(int row, int column) {
        needSquare(row, column);
        int wide = columnsWith(name(row, column)).stream().mapToInt(this::widthOf).sum();
        int high = rowsWith(name(row, column)).stream().mapToInt(this::heightOf).sum();
        return wide * high;
    }

    int cellAt(int x, int y) {
        int fromY = 0;
        for (int row = 0; row < rows(); row++) {
            int fromX = 0;
            for (int column = 0; column < columns(); column++) {
                boolean isInX = x >= fromX && x < fromX + widthOf(column);
                if (isInX && y >= fromY && y < fromY + heightOf(row)) {
                    return 100 * topOf(row, column) + leftOf(row, column);
                }
                fromX += widthOf(column);
            }
            fromY += heightOf(row);
        }
        throw new NoSuchElementException();
    }

    boolean takeBack() {
        needState(saved != null);
        State other = saved;
        saved = state;
        state = other;
        reselect();
        return saved.inks.size() == state.inks.size();
    }

    long sum() {
        return selectedNames().stream().mapToLong(name -> state.inks.get(name).content).sum();
    }

    double mean() {
        if (filled() == 0) {
            throw new ArithmeticException();
        }
        return (double) sum() / (double) filled();
    }

    float mergedShare() {
        int count = 0;
        for (int row = 0; row < rows(); row++) {
            for (int column = 0; column < columns(); column++) {
                count += rowsOf(row, column) * columnsOf(row, column) > 1 ? 1 : 0;
            }
        }
        return (float) count / (float) (rows() * columns());
    }

    boolean isTiled() {
        for (int column = 0; column < columns(); column++) {
            for (int row = 0; row < rows(); row++) {
                Set<Integer> high = rowsWith(name(row, column));
                boolean isAcross = Collections.min(high) < header() && Collections.max(high) >= header();
                if (isAcross) {
                    return false;
                }
            }
        }
        return true;
    }
}
