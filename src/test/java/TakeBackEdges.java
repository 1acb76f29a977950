/** The sentences of promise 39: the last change is taken back. */
final class TakeBackEdges {
    private final Edges edges;

    TakeBackEdges(Edges edges) {
        this.edges = edges;
    }

    void run() {
        takesBack();
        asManyCells();
        nothingToTakeBack();
    }

    private void takesBack() {
        edges.promise(39, "Takes the last change back.");
        MergeGrid first = new MergeGrid();
        first.setContent(3, 3, 999);
        first.takeBack();
        edges.due("the first change", first.contentAt(3, 3), 0);
        MergeGrid grid = Grids.used(12, 10);
        String before = Look.table(grid);
        grid.setHeader(0);
        grid.select(0, 0, 11, 9);
        grid.clear();
        grid.merge();
        grid.takeBack();
        grid.select(11, 9, 11, 9);
        edges.due("one change alone", grid.sum() + " of " + grid.cellCount(), "0 of 120");
        MergeGrid most = Grids.used(12, 10);
        most.deleteRow(11);
        most.takeBack();
        edges.due("where rows are the most again", Look.table(most), before);
        most.deleteColumn(0);
        most.takeBack();
        edges.due("where columns are the most again", Look.table(most), before);
        MergeGrid least = Grids.used(1, 1);
        String one = Look.table(least);
        least.insertRow(0);
        least.takeBack();
        edges.due("where there is one row again", Look.table(least), one);
        least.insertColumn(1);
        least.takeBack();
        edges.due("where there is one column again", Look.table(least), one);
        for (int i = 0; i < 100; i++) {
            least.takeBack();
        }
        edges.due("an even number of times", Look.table(least), one);
        least.takeBack();
        edges.due("an odd number of times", least.columns(), 2);
    }

    private void asManyCells() {
        edges.promise(39, "Returns whether the table has as many cells");
        MergeGrid grid = Grids.used(4, 4);
        edges.due("a content", grid.takeBack(), true);
        edges.due("a content, brought back", grid.takeBack(), true);
        grid.insertRow(4);
        edges.due("a row that came", grid.takeBack(), false);
        edges.due("a row that came, brought back", grid.takeBack(), false);
        grid.deleteRow(4);
        edges.due("a row that went", grid.takeBack(), false);
        MergeGrid one = Grids.merged(Grids.greatest(), 0, 0, 11, 9);
        edges.due("a merge", one.takeBack(), false);
        edges.due("a merge, brought back", one.takeBack(), false);
        one.deleteRow(11);
        edges.due("a row that went in the only cell", one.takeBack(), true);
        one.deleteRow(0);
        one.insertRow(1);
        edges.due("a row that came in the only cell", one.takeBack(), true);
        one.split(0, 0, 's');
        edges.due("a split", one.takeBack(), false);
        MergeGrid pasted = Grids.used(2, 2);
        pasted.paste(0, 0, 1, 1);
        edges.due("a paste of as many cells", pasted.takeBack(), true);
        MergeGrid fewer = Grids.merged(Grids.sized(4, 2), 0, 0, 0, 1);
        fewer.copy();
        fewer.paste(1, 0, 3, 1);
        edges.due("a paste of fewer cells", fewer.takeBack(), false);
    }

    private void nothingToTakeBack() {
        edges.promise(39, "Throws `IllegalStateException`");
        edges.dueThrow("of a new object", MergeGrid::new, Edges.STATE, MergeGrid::takeBack);
        edges.dueThrow("after a selection and a copy", () -> {
            MergeGrid grid = new MergeGrid();
            grid.select(1, 1, 3, 3);
            grid.copy();
            return grid;
        }, Edges.STATE, MergeGrid::takeBack);
        edges.dueThrow("after calls that threw", () -> {
            MergeGrid grid = new MergeGrid();
            Edges.outcome(grid, g -> g.insertRow(5));
            Edges.outcome(grid, g -> g.setContent(0, 0, 1000));
            Edges.outcome(grid, MergeGrid::merge);
            Edges.outcome(grid, MergeGrid::clear);
            Edges.outcome(grid, MergeGrid::takeBack);
            return grid;
        }, Edges.STATE, MergeGrid::takeBack);
        MergeGrid changed = new MergeGrid();
        changed.setWidth(0, 50);
        edges.due("after a change", changed.takeBack(), true);
        edges.due("after it was taken back", changed.takeBack(), true);
    }
}
