import java.util.LinkedHashMap;
import java.util.List;
import java.util.Map;
import java.util.function.BiFunction;
import java.util.function.Function;
import java.util.function.Supplier;

/** The sentence of the terms that all calls but changes ask: no question is answered otherwise behind another one. */
final class QuestionsEdges {
    private final Edges edges;

    QuestionsEdges(Edges edges) {
        this.edges = edges;
    }

    void run() {
        edges.terms("Its calls are those of somebody who edits a table");
        List<Supplier<MergeGrid>> tables = List.of(MergeGrid::new, () -> Grids.used(4, 4), QuestionsEdges::withCells);
        for (Supplier<MergeGrid> made : tables) {
            for (Map.Entry<String, Function<MergeGrid, Object>> question : questions().entrySet()) {
                dueAlike(made, question.getKey(), question.getValue());
            }
        }
    }

    /** A table of 4 rows and 4 columns with great cells, the last of them selected, and one of them copied. */
    private static MergeGrid withCells() {
        MergeGrid grid = Line.ROW.withCell(Grids.used(4, 4), 0, 0, 1, 2);
        grid.copy();
        Line.ROW.withCell(grid, 2, 2, 3, 3);
        return grid;
    }

    private void dueAlike(Supplier<MergeGrid> made, String name, Function<MergeGrid, Object> question) {
        Map<String, Function<MergeGrid, Object>> others = questions();
        others.put("takeBack", grid -> grid.takeBack() + "\n" + Look.at(grid));
        if (!name.equals("copy")) {
            others.put("paste", grid -> grid.paste(0, 0, 1, 1) + "\n" + Look.at(grid));
        }
        for (Map.Entry<String, Function<MergeGrid, Object>> other : others.entrySet()) {
            MergeGrid asked = made.get();
            answer(asked, question);
            edges.due(other.getKey() + " behind " + name, answer(asked, other.getValue()),
                    answer(made.get(), other.getValue()));
        }
    }

    private static Object answer(MergeGrid grid, Function<MergeGrid, Object> question) {
        try {
            return question.apply(grid);
        } catch (RuntimeException e) {
            return e.getClass().getSimpleName();
        }
    }

    private static String ofSquares(BiFunction<Integer, Integer, Object> question) {
        StringBuilder text = new StringBuilder();
        for (int i = 0; i < 16; i++) {
            text.append(question.apply(i / 4, i % 4)).append(' ');
        }
        return text.toString();
    }

    /** What a table of 4 rows and 4 columns can be asked; a copy is no change, either. */
    private static Map<String, Function<MergeGrid, Object>> questions() {
        Map<String, Function<MergeGrid, Object>> questions = new LinkedHashMap<>();
        questions.put("rows", MergeGrid::rows);
        questions.put("columns", MergeGrid::columns);
        questions.put("cellCount", MergeGrid::cellCount);
        questions.put("cellsBySquares", MergeGrid::cellsBySquares);
        questions.put("topOf", grid -> ofSquares(grid::topOf));
        questions.put("leftOf", grid -> ofSquares(grid::leftOf));
        questions.put("rowsOf", grid -> ofSquares(grid::rowsOf));
        questions.put("columnsOf", grid -> ofSquares(grid::columnsOf));
        questions.put("contentAt", grid -> ofSquares(grid::contentAt));
        questions.put("styleAt", grid -> ofSquares(grid::styleAt));
        questions.put("selected", grid -> "" + grid.selected('t') + grid.selected('l') + grid.selected('b')
                + grid.selected('r'));
        questions.put("selectedCells", MergeGrid::selectedCells);
        questions.put("squaresFor", grid -> ofSquares((row, column) -> grid.squaresFor(1, 1, row, column)));
        questions.put("copy", MergeGrid::copy);
        questions.put("header", MergeGrid::header);
        questions.put("widthOf", grid -> ofSquares((row, column) -> grid.widthOf(column)));
        questions.put("heightOf", grid -> ofSquares((row, column) -> grid.heightOf(row)));
        questions.put("sizeOf", grid -> ofSquares(grid::sizeOf));
        questions.put("cellAt", grid -> ofSquares((row, column) -> grid.cellAt(50 * column, 20 * row)));
        questions.put("sum", MergeGrid::sum);
        questions.put("mean", MergeGrid::mean);
        questions.put("mergedShare", MergeGrid::mergedShare);
        questions.put("isTiled", MergeGrid::isTiled);
        return questions;
    }
}
