import java.util.NoSuchElementException;

/** Promises 31 to 38: widths and heights, and the cell at a point. */
public final class SizesTest {
    private static final Class<IndexOutOfBoundsException> INDEX = IndexOutOfBoundsException.class;
    private static final Class<IllegalArgumentException> ARGUMENT = IllegalArgumentException.class;
    private static final Class<UnsupportedOperationException> UNSUPPORTED = UnsupportedOperationException.class;
    private static final Class<NoSuchElementException> NO_ELEMENT = NoSuchElementException.class;
    private static final int MOST = Integer.MAX_VALUE;
    private static final int LEAST = Integer.MIN_VALUE;
    private static final Answers ANSWERS = new Answers("SizesTest");

    private SizesTest() {
    }

    public static void main(String[] args) {
        promises31And33Width();
        promises32And34Height();
        promise35Drag();
        promise36Even();
        promise37SizeOf();
        promise38CellAt();
        ANSWERS.end();
    }

    private static void promises31And33Width() {
        MergeGrid grid = new MergeGrid();
        grid.deleteRow(0);
        ANSWERS.due("widthOf(3)", grid.widthOf(3), 50);
        ANSWERS.due("setWidth(3, 200)", grid.setWidth(3, 200), 50);
        ANSWERS.due("setWidth(0, 10)", grid.setWidth(0, 10), 50);
        ANSWERS.due("setWidth(3, 199)", grid.setWidth(3, 199), 200);
        ANSWERS.due("widths", Grids.widths(grid), "10 50 50 199");
        ANSWERS.dueThrow("widthOf(-1)", grid, INDEX, () -> grid.widthOf(-1));
        ANSWERS.dueThrow("widthOf(4)", grid, INDEX, () -> grid.widthOf(4));
        ANSWERS.dueThrow("setWidth(-1, 50)", grid, INDEX, () -> grid.setWidth(-1, 50));
        ANSWERS.dueThrow("setWidth(4, 9)", grid, INDEX, () -> grid.setWidth(4, 9));
        ANSWERS.dueThrow("setWidth(0, 9)", grid, ARGUMENT, () -> grid.setWidth(0, 9));
        ANSWERS.dueThrow("setWidth(0, 201)", grid, ARGUMENT, () -> grid.setWidth(0, 201));
        ANSWERS.dueThrow("setWidth(0, least)", grid, ARGUMENT, () -> grid.setWidth(0, LEAST));
    }

    private static void promises32And34Height() {
        MergeGrid grid = new MergeGrid();
        grid.deleteColumn(0);
        ANSWERS.due("heightOf(3)", grid.heightOf(3), 20);
        ANSWERS.due("setHeight(3, 100)", grid.setHeight(3, 100), 20);
        ANSWERS.due("setHeight(0, 5)", grid.setHeight(0, 5), 20);
        ANSWERS.due("setHeight(3, 99)", grid.setHeight(3, 99), 100);
        ANSWERS.due("heights", Grids.heights(grid), "5 20 20 99");
        ANSWERS.dueThrow("heightOf(-1)", grid, INDEX, () -> grid.heightOf(-1));
        ANSWERS.dueThrow("heightOf(4)", grid, INDEX, () -> grid.heightOf(4));
        ANSWERS.dueThrow("setHeight(-1, 20)", grid, INDEX, () -> grid.setHeight(-1, 20));
        ANSWERS.dueThrow("setHeight(4, 4)", grid, INDEX, () -> grid.setHeight(4, 4));
        ANSWERS.dueThrow("setHeight(0, 4)", grid, ARGUMENT, () -> grid.setHeight(0, 4));
        ANSWERS.dueThrow("setHeight(0, 101)", grid, ARGUMENT, () -> grid.setHeight(0, 101));
        ANSWERS.dueThrow("setHeight(0, most)", grid, ARGUMENT, () -> grid.setHeight(0, MOST));
    }

    private static void promise35Drag() {
        MergeGrid grid = new MergeGrid();
        ANSWERS.due("drag(0, 40)", grid.drag(0, 40), 90);
        ANSWERS.due("widths", Grids.widths(grid), "90 10 50 50");
        ANSWERS.due("drag(0, -80)", grid.drag(0, -80), 10);
        ANSWERS.due("drag(2, 0)", grid.drag(2, 0), 50);
        ANSWERS.due("widths then", Grids.widths(grid), "10 90 50 50");
        ANSWERS.dueThrow("drag(0, -1)", grid, UNSUPPORTED, () -> grid.drag(0, -1));
        ANSWERS.dueThrow("drag(1, 41)", grid, UNSUPPORTED, () -> grid.drag(1, 41));
        grid.setWidth(2, 200);
        grid.setWidth(3, 200);
        ANSWERS.dueThrow("drag(2, 1)", grid, UNSUPPORTED, () -> grid.drag(2, 1));
        ANSWERS.dueThrow("drag(2, -1)", grid, UNSUPPORTED, () -> grid.drag(2, -1));
        ANSWERS.dueThrow("drag(1, most)", grid, UNSUPPORTED, () -> grid.drag(1, MOST));
        ANSWERS.dueThrow("drag(1, least)", grid, UNSUPPORTED, () -> grid.drag(1, LEAST));
        ANSWERS.dueThrow("drag(-1, 0)", grid, INDEX, () -> grid.drag(-1, 0));
        ANSWERS.dueThrow("drag(3, 0)", grid, INDEX, () -> grid.drag(3, 0));
        ANSWERS.dueThrow("drag(3, 500)", grid, INDEX, () -> grid.drag(3, 500));
        ANSWERS.dueThrow("drag(4, 0)", grid, INDEX, () -> grid.drag(4, 0));
        ANSWERS.dueThrow("drag(most, 0)", grid, INDEX, () -> grid.drag(MOST, 0));
    }

    private static void promise36Even() {
        MergeGrid grid = new MergeGrid();
        grid.setWidth(0, 10);
        grid.setWidth(1, 11);
        grid.setWidth(2, 20);
        ANSWERS.due("even(0, 3)", grid.even(0, 3), 23);
        ANSWERS.due("widths", Grids.widths(grid), "23 23 23 22");
        grid.setWidth(2, 200);
        ANSWERS.due("even(1, 2)", grid.even(1, 2), 112);
        ANSWERS.due("widths then", Grids.widths(grid), "23 112 111 22");
        ANSWERS.due("even(1, 2) again", grid.even(1, 2), 112);
        ANSWERS.due("even(0, 3) in the end", grid.even(0, 3), 67);
        ANSWERS.due("widths in the end", Grids.widths(grid), "67 67 67 67");
        ANSWERS.dueThrow("even(-1, 2)", grid, INDEX, () -> grid.even(-1, 2));
        ANSWERS.dueThrow("even(0, 4)", grid, INDEX, () -> grid.even(0, 4));
        ANSWERS.dueThrow("even(4, 0)", grid, INDEX, () -> grid.even(4, 0));
        ANSWERS.dueThrow("even(0, -1)", grid, INDEX, () -> grid.even(0, -1));
        ANSWERS.dueThrow("even(2, 2)", grid, ARGUMENT, () -> grid.even(2, 2));
        ANSWERS.dueThrow("even(3, 1)", grid, ARGUMENT, () -> grid.even(3, 1));
    }

    private static void promise37SizeOf() {
        MergeGrid grid = new MergeGrid();
        grid.setWidth(1, 30);
        grid.setWidth(2, 40);
        grid.setHeight(1, 7);
        grid.setHeight(2, 8);
        ANSWERS.due("sizeOf(1, 2)", grid.sizeOf(1, 2), 280);
        Grids.merged(grid, 1, 1, 2, 2);
        ANSWERS.due("sizeOf(2, 2) of the merged cell", grid.sizeOf(2, 2), 1050);
        ANSWERS.due("sizeOf(0, 0)", grid.sizeOf(0, 0), 1000);
        ANSWERS.dueThrow("sizeOf(4, 0)", grid, INDEX, () -> grid.sizeOf(4, 0));
        ANSWERS.dueThrow("sizeOf(0, 4)", grid, INDEX, () -> grid.sizeOf(0, 4));
        ANSWERS.dueThrow("sizeOf(-1, 0)", grid, INDEX, () -> grid.sizeOf(-1, 0));
        ANSWERS.dueThrow("sizeOf(0, -1)", grid, INDEX, () -> grid.sizeOf(0, -1));
        MergeGrid most = Grids.merged(Grids.greatest(), 0, 0, 11, 9);
        for (int i = 0; i < 12; i++) {
            most.setHeight(i, 100);
            most.setWidth(i % 10, 200);
        }
        ANSWERS.due("sizeOf(11, 9) at most", most.sizeOf(11, 9), 2400000);
    }

    private static void promise38CellAt() {
        MergeGrid grid = new MergeGrid();
        grid.setWidth(0, 30);
        grid.setHeight(3, 5);
        Grids.merged(grid, 1, 1, 2, 3);
        ANSWERS.due("cellAt(0, 0)", grid.cellAt(0, 0), 0);
        ANSWERS.due("cellAt(29, 19)", grid.cellAt(29, 19), 0);
        ANSWERS.due("cellAt(30, 19)", grid.cellAt(30, 19), 1);
        ANSWERS.due("cellAt(29, 20)", grid.cellAt(29, 20), 100);
        ANSWERS.due("cellAt(30, 20)", grid.cellAt(30, 20), 101);
        ANSWERS.due("cellAt(179, 59) of the merged cell", grid.cellAt(179, 59), 101);
        ANSWERS.due("cellAt(179, 60)", grid.cellAt(179, 60), 303);
        ANSWERS.due("cellAt(0, 64)", grid.cellAt(0, 64), 300);
        ANSWERS.dueThrow("cellAt(-1, 0)", grid, NO_ELEMENT, () -> grid.cellAt(-1, 0));
        ANSWERS.dueThrow("cellAt(0, -1)", grid, NO_ELEMENT, () -> grid.cellAt(0, -1));
        ANSWERS.dueThrow("cellAt(180, 0)", grid, NO_ELEMENT, () -> grid.cellAt(180, 0));
        ANSWERS.dueThrow("cellAt(0, 65)", grid, NO_ELEMENT, () -> grid.cellAt(0, 65));
        ANSWERS.dueThrow("cellAt(most, most)", grid, NO_ELEMENT, () -> grid.cellAt(MOST, MOST));
        ANSWERS.dueThrow("cellAt(least, least)", grid, NO_ELEMENT, () -> grid.cellAt(LEAST, LEAST));
        MergeGrid most = Grids.greatest();
        ANSWERS.due("cellAt(499, 239) of the greatest table", most.cellAt(499, 239), 1109);
    }
}
