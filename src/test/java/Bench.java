import java.util.ArrayList;
import java.util.Arrays;
import java.util.List;

/** What the tests share: programs written as text, and a tally of answers that are not as due. */
final class Bench {
    static final List<String> OPERATORS = Arrays.asList(
            ("add sub mul div mod neg lt eq pop dup exch index count clear exec if ifelse repeat for loop exit"
            + " gsave grestore translate scale turn gray width newpath moveto lineto rmoveto rlineto curveto"
            + " close point fill eofill stroke clip eoclip initclip wipe dot box").split(" "));

    private int asked = 0;
    private int wrong = 0;
    private int askedBySentence = 0;
    private String sentence = "";

    /** "@n" puts variable n on, "!n" takes a value off into it; "text*n" in front of a blank stands for n copies. */
    static List<int[]> tokens(String text) {
        List<int[]> tokens = new ArrayList<>();
        for (String word : text.trim().split("\\s+")) {
            if (word.isEmpty()) {
                continue;
            }
            int star = word.lastIndexOf('*');
            int times = star > 0 ? Integer.parseInt(word.substring(star + 1)) : 1;
            String plain = star > 0 ? word.substring(0, star) : word;
            for (int k = 0; k < times; k++) {
                tokens.add(oneToken(plain));
            }
        }
        return tokens;
    }

    private static int[] oneToken(String word) {
        if (word.equals("{")) {
            return new int[] {2, 0};
        }
        if (word.equals("}")) {
            return new int[] {3, 0};
        }
        if (word.startsWith("@")) {
            return new int[] {4, Integer.parseInt(word.substring(1))};
        }
        if (word.startsWith("!")) {
            return new int[] {5, Integer.parseInt(word.substring(1))};
        }
        int operator = OPERATORS.indexOf(word);
        if (operator >= 0) {
            return new int[] {1, operator};
        }
        return new int[] {0, Integer.parseInt(word)};
    }

    static void load(StackRaster raster, String text) {
        raster.drop();
        for (int[] token : tokens(text)) {
            if (!raster.token(token[0], token[1])) {
                throw new IllegalArgumentException("not taken: " + token[0] + " " + token[1] + " in " + text);
            }
        }
    }

    static StackRaster ran(String text) {
        StackRaster raster = new StackRaster();
        load(raster, text);
        raster.run();
        return raster;
    }

    /** The words of the document that the answers asked from here on are about. */
    void sentence(String words) {
        endSentence();
        sentence = words;
        askedBySentence = 0;
    }

    private void endSentence() {
        if (!sentence.isEmpty() && askedBySentence == 0) {
            wrong++;
            System.out.println("no answer is asked for: " + sentence);
        }
    }

    void due(String what, Object got, Object want) {
        asked++;
        askedBySentence++;
        if (!got.equals(want)) {
            wrong++;
            System.out.println(what + " answered " + got + ", due is " + want);
            if (!sentence.isEmpty()) {
                System.out.println("  the document: " + sentence);
            }
        }
    }

    /** The values on the stack, lowest first, a procedure as p and the number of its '{'. */
    static String stack(StackRaster raster) {
        StringBuilder text = new StringBuilder();
        for (int k = raster.depth() - 1; k >= 0; k--) {
            text.append(text.length() > 0 ? " " : "").append(raster.kind(k) == 1 ? "p" : "").append(raster.value(k));
        }
        return text.toString();
    }

    /** The points of the path as x,y,mark. */
    static String path(StackRaster raster) {
        StringBuilder text = new StringBuilder();
        for (int k = 0; k < raster.points(); k++) {
            text.append(text.length() > 0 ? " " : "");
            text.append(raster.corner(k, 0)).append(',').append(raster.corner(k, 1)).append(',').append(raster.corner(k, 2));
        }
        return text.toString();
    }

    /** The dots that are not 0, as i,j=gray, row by row. */
    static String page(StackRaster raster) {
        StringBuilder text = new StringBuilder();
        for (int j = 0; j < 24; j++) {
            for (int i = 0; i < 24; i++) {
                if (raster.dot(i, j) != 0) {
                    text.append(text.length() > 0 ? " " : "").append(i).append(',').append(j).append('=').append(raster.dot(i, j));
                }
            }
        }
        return text.toString();
    }

    /** The rows of the clip that are not whole, as j=row. */
    static String clip(StackRaster raster) {
        StringBuilder text = new StringBuilder();
        for (int j = 0; j < 24; j++) {
            if (raster.clip(j) != 16777215) {
                text.append(text.length() > 0 ? " " : "").append(j).append('=').append(raster.clip(j));
            }
        }
        return text.toString();
    }

    /** All that a token can change and that can be asked for after the run. */
    static String drawn(StackRaster raster) {
        return "stack " + stack(raster) + "; path " + path(raster) + "; page " + page(raster) + "; clip " + clip(raster);
    }

    /** All that can be asked for, but for the tokens. */
    static String answers(StackRaster raster) {
        return "place " + raster.place() + "; steps " + raster.steps() + "; " + drawn(raster);
    }

    /** The last token has the error: it costs a step and leaves all as it is without it. */
    void refuses(String before, String token, int error) {
        StackRaster without = ran(before);
        due(before + ": place()", without.place(), -1);
        StackRaster raster = new StackRaster();
        String program = before + " " + token;
        load(raster, program);
        due(program + ": run()", raster.run(), error);
        due(program + ": place()", raster.place(), tokens(before).size());
        due(program + ": steps()", raster.steps(), without.steps() + 1);
        due(program + ": what is left", drawn(raster), drawn(without));
    }

    void leaves(String program, String stack) {
        StackRaster raster = new StackRaster();
        load(raster, program);
        due(program + ": run()", raster.run(), StackRaster.OK);
        due(program + ": place()", raster.place(), -1);
        due(program + ": stack", stack(raster), stack);
    }

    void draws(String program, String path) {
        StackRaster raster = new StackRaster();
        load(raster, program);
        due(program + ": run()", raster.run(), StackRaster.OK);
        due(program + ": path", path(raster), path);
    }

    void paints(String program, String page) {
        StackRaster raster = new StackRaster();
        load(raster, program);
        due(program + ": run()", raster.run(), StackRaster.OK);
        due(program + ": page", page(raster), page);
    }

    void fails(String program, int error, int place, String stack) {
        StackRaster raster = new StackRaster();
        load(raster, program);
        due(program + ": run()", raster.run(), error);
        due(program + ": place()", raster.place(), place);
        due(program + ": stack", stack(raster), stack);
    }

    void end() {
        endSentence();
        System.out.println(asked + " answers asked, " + wrong + " not as due");
        if (wrong != 0) {
            System.exit(1);
        }
    }
}
