import java.util.ArrayList;
import java.util.List;
import java.util.Random;

/** Many programs, made from fixed seeds, run by the class and by the model: every answer must be the same. */
public final class ModelTest {
    private static final Bench BENCH = new Bench();
    private static final int ROUNDS = 8000;
    private static final int[] ENDS = new int[13];
    private static final int[] EXTREMES = {Integer.MAX_VALUE, Integer.MIN_VALUE, Integer.MAX_VALUE - 3, Integer.MIN_VALUE + 3,
        1 << 26, -(1 << 26), 1 << 30, 200, -200, 201, -201};
    private static final String[] TAKES = ("nn nn nn nn nn n nn nn - n nn n - - p np npp np nnnp p - - - nn n - n n -"
            + " nn nn nn nn nnnnnn - - - - - - - - - nn nnnn").split(" ");

    private final Random random;
    private final List<int[]> program = new ArrayList<>();

    private ModelTest(long seed) {
        random = new Random(seed);
    }

    public static void main(String[] args) {
        for (int seed = 0; seed < ROUNDS; seed++) {
            new ModelTest(seed).compareRuns(seed);
        }
        for (int end = 0; end < ENDS.length; end++) {
            BENCH.due("some program ends with " + end, ENDS[end] > 0, true);
        }
        BENCH.end();
    }

    private void compareRuns(int seed) {
        StackRaster raster = new StackRaster();
        Model model = new Model();
        for (int round = 0; round < 3; round++) {
            program.clear();
            switch (random.nextInt(5)) {
                case 0:
                    addCallOfItself();
                    break;
                case 1:
                case 2:
                    addOperators(1 + random.nextInt(40), 0);
                    break;
                default:
                    addDrawing();
                    break;
            }
            load(raster, model);
            int want = model.run();
            String what = "seed " + seed + " round " + round;
            BENCH.due(what + " run()", raster.run(), want);
            ENDS[want]++;
            compareAnswers(what, raster, model);
        }
    }

    private void load(StackRaster raster, Model model) {
        cutToFit();
        raster.drop();
        model.tokens.clear();
        for (int[] token : program) {
            BENCH.due("token " + token[0] + " " + token[1], raster.token(token[0], token[1]), true);
            model.tokens.add(token);
        }
    }

    /** Of a program that is too long, as much as leaves room for the '}' of each '{' that is then open. */
    private void cutToFit() {
        while (program.size() + openBraces() > 100) {
            program.remove(program.size() - 1);
        }
        for (int open = openBraces(); open > 0; open--) {
            add(3, 0);
        }
    }

    private int openBraces() {
        int open = 0;
        for (int[] token : program) {
            open += token[0] == 2 ? 1 : token[0] == 3 ? -1 : 0;
        }
        return open;
    }

    private void compareAnswers(String what, StackRaster raster, Model model) {
        BENCH.due(what + " place()", raster.place(), model.place);
        BENCH.due(what + " steps()", raster.steps(), model.steps);
        StringBuilder stack = new StringBuilder();
        for (Object value : model.stack) {
            stack.append(stack.length() > 0 ? " " : "");
            stack.append(value instanceof Model.Procedure procedure ? "p" + procedure.open() : value.toString());
        }
        BENCH.due(what + " stack", Bench.stack(raster), stack.toString());
        StringBuilder path = new StringBuilder();
        for (Model.Subpath subpath : model.state.path) {
            int mark = subpath.closed ? 3 : 1;
            for (long[] point : subpath.points) {
                path.append(path.length() > 0 ? " " : "").append(point[0]).append(',').append(point[1]).append(',').append(mark);
                mark &= 2;
            }
        }
        BENCH.due(what + " path", Bench.path(raster), path.toString());
        StringBuilder page = new StringBuilder();
        StringBuilder clip = new StringBuilder();
        StringBuilder clipGot = new StringBuilder();
        for (int j = 0; j < 24; j++) {
            int row = 0;
            for (int i = 0; i < 24; i++) {
                row += model.state.clip[j][i] ? 1 << i : 0;
                if (model.page[j][i] != 0) {
                    page.append(page.length() > 0 ? " " : "").append(i).append(',').append(j).append('=').append(model.page[j][i]);
                }
            }
            clip.append(row).append(' ');
            clipGot.append(raster.clip(j)).append(' ');
        }
        BENCH.due(what + " page", Bench.page(raster), page.toString());
        BENCH.due(what + " clip", clipGot.toString(), clip.toString());
    }

    private void add(int kind, int value) {
        program.add(new int[] {kind, value});
    }

    private void addWord(String word) {
        program.addAll(Bench.tokens(word));
    }

    private int anyNumber() {
        int choice = random.nextInt(20);
        if (choice == 0) {
            return EXTREMES[random.nextInt(EXTREMES.length)];
        }
        return choice < 12 ? random.nextInt(8) - 1 : random.nextInt(40) - 8;
    }

    private void addProcedure(int depth) {
        add(2, 0);
        addOperators(random.nextInt(5), depth + 1);
        add(3, 0);
    }

    /** Operators, mostly with what they take put on just before, now and then without. */
    private void addOperators(int many, int depth) {
        for (int k = 0; k < many && program.size() < 90; k++) {
            int choice = random.nextInt(14);
            if (choice == 0) {
                add(4, random.nextInt(8));
            } else if (choice == 1) {
                add(5, random.nextInt(8));
            } else if (choice == 2) {
                add(0, anyNumber());
            } else if (choice == 3 && depth < 4) {
                addProcedure(depth);
            } else {
                addOperator(random.nextInt(45), depth);
            }
        }
    }

    private void addOperator(int op, int depth) {
        String takes = TAKES[op].equals("-") ? "" : TAKES[op];
        boolean isCareless = random.nextInt(12) == 0;
        for (int k = 0; k < takes.length() && !isCareless; k++) {
            boolean isProcedure = takes.charAt(k) == 'p';
            if (isProcedure && depth < 4) {
                addProcedure(depth);
            } else if (isProcedure) {
                add(4, random.nextInt(2));
            } else {
                add(0, anyNumber());
            }
        }
        add(1, op);
    }

    /** A procedure that begins itself in some way, so that procedures and loops pile up. */
    private void addCallOfItself() {
        String[] calls = {"@1 exec", "1 @1 if", "@0 9 lt @1 if", "@0 7 lt { @1 exec } if", "@0 12 lt @1 { } ifelse",
            "2 @1 repeat", "1 1 2 @1 for pop", "@1 loop", "@0 14 lt { @1 exec } { exit } ifelse", "@0 11 lt @1 @2 ifelse"};
        addWord("{ @0 1 add !0");
        addOperators(random.nextInt(2), 3);
        addWord(calls[random.nextInt(calls.length)]);
        addOperators(random.nextInt(2), 3);
        addWord("} !1");
        addProcedure(3);
        addWord("!2");
        addWord(random.nextBoolean() ? "@1 exec" : "3 { @1 exec } repeat");
        addOperators(random.nextInt(4), 0);
    }

    private int onPage() {
        return random.nextInt(30) - 3;
    }

    /** Paths that mostly succeed, so that dots, clips and copies are reached. */
    private void addDrawing() {
        String[] settings = {"gsave", "grestore", "turn", "2 scale", "12 0 translate", "0 12 translate", "-3 2 translate",
            "1 gray", "2 gray", "3 gray", "1 width", "3 width", "4 width", "5 width", "6 width", "initclip", "point"};
        String[] paints = {"fill", "eofill", "stroke", "clip", "eoclip", "gsave clip newpath"};
        addWord((1 + random.nextInt(3)) + " gray");
        while (program.size() < 80) {
            int lines = random.nextInt(4);
            for (int k = random.nextInt(3); k > 0; k--) {
                addWord(settings[random.nextInt(settings.length)]);
            }
            if (random.nextInt(4) == 0) {
                addWord(onPage() + " " + onPage() + " " + random.nextInt(20) + " " + (random.nextInt(24) - 4) + " box");
            } else {
                addWord(onPage() + " " + onPage() + " moveto");
            }
            for (int k = 0; k < lines; k++) {
                addSegment();
            }
            if (random.nextInt(3) > 0) {
                addWord(paints[random.nextInt(paints.length)]);
            }
        }
    }

    private void addSegment() {
        int choice = random.nextInt(10);
        if (choice < 4) {
            addWord(onPage() + " " + onPage() + " lineto");
        } else if (choice < 6) {
            addWord((random.nextInt(30) - 15) + " " + (random.nextInt(30) - 15) + " rlineto");
        } else if (choice < 7) {
            addWord((random.nextInt(30) - 15) + " " + (random.nextInt(30) - 15) + " rmoveto");
        } else if (choice < 8) {
            addWord(onPage() + " " + onPage() + " " + onPage() + " " + onPage() + " " + onPage() + " " + onPage() + " curveto");
        } else {
            addWord("close");
        }
    }
}
