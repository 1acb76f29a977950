import java.util.Map;
import java.util.function.Consumer;

/** The sentences of the document's terms about rows and columns, header, blocks, sizes and taking back. */
final class ChangesEdges {
    private final Edges edges;

    ChangesEdges(Edges edges) {
        this.edges = edges;
    }

    void run() {
        for (Line line : Line.values()) {
            lineComes(line);
            lineGoes(line);
        }
        headerAndBody();
        headerGrowsAndShrinks();
        blocks();
        copyStays();
        sizes();
        newSizes();
        sizesMove();
        lastChange();
        takingBack();
    }

    private void dueSquares(Line line, MergeGrid grid, int number, String... want) {
        for (int across = 0; across < want.length; across++) {
            edges.due("the square " + number + "," + across, line.square(grid, number, across), want[across]);
        }
    }

    private void lineComes(Line line) {
        edges.terms(line == Line.ROW ? "When a row is inserted in front of a row" : "The same holds for columns.");
        MergeGrid front = line.withCell(line.sized(4, 3), 1, 0, 2, 1);
        line.insert(front, 1);
        dueSquares(line, front, 1, "1,0+1x1:0/0", "1,1+1x1:0/0", "1,2+1x1:0/0");
        dueSquares(line, front, 2, "2,0+2x2:7/3", "2,0+2x2:7/3", "2,2+1x1:0/0");
        MergeGrid inside = line.withCell(line.sized(4, 3), 1, 0, 2, 1);
        line.insert(inside, 2);
        dueSquares(line, inside, 2, "1,0+3x2:7/3", "1,0+3x2:7/3", "2,2+1x1:0/0");
        dueSquares(line, inside, 3, "1,0+3x2:7/3", "1,0+3x2:7/3", "3,2+1x1:0/0");
        MergeGrid behind = line.withCell(line.sized(4, 3), 1, 0, 2, 1);
        line.insert(behind, 3);
        dueSquares(line, behind, 2, "1,0+2x2:7/3", "1,0+2x2:7/3", "2,2+1x1:0/0");
        dueSquares(line, behind, 3, "3,0+1x1:0/0", "3,1+1x1:0/0", "3,2+1x1:0/0");
        MergeGrid outer = line.withCell(line.sized(2, 3), 0, 0, 1, 2);
        line.insert(outer, 2);
        line.insert(outer, 0);
        dueSquares(line, outer, 0, "0,0+1x1:0/0", "0,1+1x1:0/0", "0,2+1x1:0/0");
        dueSquares(line, outer, 3, "3,0+1x1:0/0", "3,1+1x1:0/0", "3,2+1x1:0/0");
        MergeGrid used = line.used(2, 2);
        line.insert(used, 1);
        dueSquares(line, used, 1, "1,0+1x1:0/0", "1,1+1x1:0/0");
    }

    private void lineGoes(Line line) {
        edges.terms(line == Line.ROW ? "When a row is deleted, each cell" : "The same holds for columns.");
        for (int number = 1; number <= 3; number++) {
            MergeGrid grid = line.withCell(line.sized(5, 2), 1, 0, 3, 0);
            line.delete(grid, number);
            dueSquares(line, grid, 1, "1,0+2x1:7/3", "1,1+1x1:0/0");
            line.delete(grid, 2);
            dueSquares(line, grid, 1, "1,0+1x1:7/3", "1,1+1x1:0/0");
            edges.due("the only one of it", line.delete(grid, 1), 2);
            dueSquares(line, grid, 1, "1,0+1x1:0/0", "1,1+1x1:0/0");
        }
        MergeGrid before = line.withCell(line.sized(4, 2), 1, 0, 2, 0);
        line.delete(before, 0);
        dueSquares(line, before, 0, "0,0+2x1:7/3", "0,1+1x1:0/0");
        MergeGrid behind = line.withCell(line.sized(4, 2), 1, 0, 2, 0);
        line.delete(behind, 3);
        dueSquares(line, behind, 2, "1,0+2x1:7/3", "2,1+1x1:0/0");
        String stay = "The content and the style of all other cells stay.";
        edges.terms(line == Line.ROW ? stay : "The same holds for columns.");
        for (int number = 0; number < 4; number++) {
            MergeGrid grid = line.used(4, 3);
            MergeGrid old = line.used(4, 3);
            line.delete(grid, number);
            for (int i = 0; i < 9; i++) {
                int from = i / 3 < number ? i / 3 : i / 3 + 1;
                edges.due("what was at " + from + "," + i % 3, line.square(grid, i / 3, i % 3).replaceAll(".*:", ""),
                        line.square(old, from, i % 3).replaceAll(".*:", ""));
            }
        }
    }

    private void headerAndBody() {
        edges.terms("The first rows are the header, none at first");
        edges.due("at first", new MergeGrid().header(), 0);
        for (int header = 0; header <= 4; header++) {
            MergeGrid grid = Grids.numbered();
            grid.setHeader(header);
            edges.due("rows of the body behind " + header, grid.sort(0, false), (4 - header) / 2 * 2);
        }
        edges.terms("No cell has squares both in the header and in the body.");
        for (int header = 1; header < 4; header++) {
            int rows = header;
            MergeGrid grid = new MergeGrid();
            grid.setHeader(rows);
            grid.select(rows - 1, 0, rows, 0);
            edges.due("a merge", Edges.outcome(grid, MergeGrid::merge), "UnsupportedOperationException");
            MergeGrid tall = Grids.merged(new MergeGrid(), rows - 1, 0, rows, 0);
            edges.due("a header", Edges.outcome(tall, g -> g.setHeader(rows)), "UnsupportedOperationException");
            tall.select(rows, 0, rows, 0);
            tall.copy();
            tall.split(rows, 0, 's');
            tall.setHeader(rows);
            edges.due("a paste", Edges.outcome(tall, g -> g.paste(rows - 1, 0, 1, 1)), "UnsupportedOperationException");
        }
    }

    private void headerGrowsAndShrinks() {
        edges.terms("A row that is inserted in front of a row of the header");
        for (int rows : new int[] {1, 2, 5, 11}) {
            for (int header = 0; header <= rows; header++) {
                for (int row = 0; row <= rows; row++) {
                    MergeGrid grid = Grids.sized(rows, 1);
                    grid.setHeader(header);
                    grid.insertRow(row);
                    edges.due("insertRow(" + row + ") with " + header + " of " + rows, grid.header(),
                            row < header ? header + 1 : header);
                    if (row < rows && rows > 1) {
                        MergeGrid less = Grids.sized(rows, 1);
                        less.setHeader(header);
                        less.deleteRow(row);
                        edges.due("deleteRow(" + row + ") with " + header + " of " + rows, less.header(),
                                row < header ? header - 1 : header);
                    }
                }
            }
        }
    }

    private void blocks() {
        edges.terms("What is selected can be copied");
        MergeGrid grid = Line.ROW.withCell(Grids.used(12, 10), 7, 7, 9, 8);
        grid.setHeader(0);
        grid.select(6, 6, 9, 9);
        edges.due("copied", grid.copy(), 11);
        grid.paste(0, 0, 1, 1);
        for (int i = 0; i < 16; i++) {
            String old = Look.square(grid, 6 + i / 4, 6 + i % 4).replaceAll(".*\\+", "");
            edges.due("the square " + i, Look.square(grid, i / 4, i % 4).replaceAll(".*\\+", ""), old);
        }
        edges.due("the place of the great cell", Look.square(grid, 3, 2), "1,1+3x2:7/3");
        edges.terms("A copy that is pasted several times lies side by side");
        MergeGrid tiled = Line.ROW.withCell(Grids.sized(12, 10), 0, 0, 2, 1);
        tiled.copy();
        tiled.paste(0, 2, 4, 4);
        for (int row = 0; row < 12; row++) {
            for (int column = 2; column < 10; column++) {
                String want = row / 3 * 3 + "," + column / 2 * 2 + "+3x2:7/3";
                edges.due("by " + row + "," + column, Look.square(tiled, row, column), want);
            }
        }
    }

    private void copyStays() {
        edges.terms("What is selected can be copied");
        for (Map.Entry<String, Consumer<MergeGrid>> change : Changes.all().entrySet()) {
            MergeGrid changed = Changes.begun();
            changed.select(1, 2, 1, 2);
            changed.copy();
            change.getValue().accept(changed);
            changed.takeBack();
            edges.due("pasted after " + change.getKey(), changed.paste(3, 2, 1, 1), 1);
            edges.due("the copied cell", Look.square(changed, 3, 3), "3,2+1x2:7/1");
        }
    }

    private void sizes() {
        edges.terms("A column has a width from 10 to 200, 50 at first");
        MergeGrid grid = new MergeGrid();
        edges.due("at first", Grids.widths(grid) + ", " + Grids.heights(grid), "50 50 50 50, 20 20 20 20");
        int[][] widths = {{10, 1}, {200, 1}, {9, 0}, {201, 0}};
        for (int[] width : widths) {
            String want = width[1] == 1 ? "no exception" : "IllegalArgumentException";
            edges.due("the width " + width[0], Edges.outcome(grid, g -> g.setWidth(0, width[0])), want);
        }
        int[][] heights = {{5, 1}, {100, 1}, {4, 0}, {101, 0}};
        for (int[] height : heights) {
            String want = height[1] == 1 ? "no exception" : "IllegalArgumentException";
            edges.due("the height " + height[0], Edges.outcome(grid, g -> g.setHeight(0, height[0])), want);
        }
    }

    private void newSizes() {
        edges.terms("A new one has the width 50 or the height 20.");
        for (Line line : Line.values()) {
            for (int number = 0; number <= line.most - 1; number++) {
                MergeGrid used = line.used(line.most - 1, 2);
                String before = number == 0 ? "" : "" + line.size(used, number - 1);
                String behind = number == line.most - 1 ? "" : "" + line.size(used, number);
                line.insert(used, number);
                edges.due(line.call("insert", number), line.size(used, number), line.newSize);
                edges.due("in front of it", number == 0 ? "" : "" + line.size(used, number - 1), before);
                edges.due("behind it", number == line.most - 1 ? "" : "" + line.size(used, number + 1), behind);
                line.delete(used, number);
                line.insert(used, number);
                edges.due("where one went", line.size(used, number), line.newSize);
            }
        }
    }

    private void sizesMove() {
        edges.terms("When a row is moved or sorted, its height goes with it.");
        MergeGrid moved = Grids.used(12, 1);
        moved.setHeader(0);
        moved.moveRow(0, 11);
        edges.due("down", Grids.heights(moved), "22 23 24 25 26 27 28 29 30 31 32 21");
        moved.moveRow(11, 0);
        edges.due("up", Grids.heights(moved), "21 22 23 24 25 26 27 28 29 30 31 32");
        moved.sort(0, false);
        edges.due("sorted", Grids.heights(moved), "32 31 30 29 28 27 26 25 24 23 22 21");
        moved.setHeader(11);
        moved.sort(0, true);
        edges.due("a body of one row", Grids.heights(moved), "32 31 30 29 28 27 26 25 24 23 22 21");
    }

    private void lastChange() {
        edges.terms("The last change is the last call of");
        for (Map.Entry<String, Consumer<MergeGrid>> change : Changes.all().entrySet()) {
            MergeGrid grid = Changes.begun();
            grid.setContent(3, 0, 900);
            String before = Look.table(grid);
            change.getValue().accept(grid);
            Edges.outcome(grid, g -> g.setWidth(0, 9));
            Edges.outcome(grid, g -> g.setContent(9, 9, 9));
            Edges.outcome(grid, g -> g.deleteRow(-1));
            grid.takeBack();
            edges.due("of " + change.getKey() + " in front of calls that threw", Look.table(grid), before);
            edges.due("the one in front of it stays", grid.contentAt(3, 0), 900);
        }
    }

    private void takingBack() {
        edges.terms("When it is taken back, the cells, the header");
        for (Map.Entry<String, Consumer<MergeGrid>> change : Changes.all().entrySet()) {
            MergeGrid grid = Changes.begun();
            String before = Look.table(grid);
            change.getValue().accept(grid);
            String after = Look.table(grid);
            edges.due(change.getKey() + " differs", before.equals(after), false);
            grid.takeBack();
            edges.due(change.getKey() + " once", Look.table(grid), before);
            grid.takeBack();
            edges.due(change.getKey() + " twice", Look.table(grid), after);
            grid.takeBack();
            edges.due(change.getKey() + " three times", Look.table(grid), before);
        }
    }
}
