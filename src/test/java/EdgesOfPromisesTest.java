/** The boundary cases that the document names under "Promise 1" to "Promise 15". */
public final class EdgesOfPromisesTest {
    private static final Bench BENCH = new Bench();
    private static final int MIN = Integer.MIN_VALUE;
    private static final int MAX = Integer.MAX_VALUE;
    private static final int WHOLE_ROW = 16777215;

    public static void main(String[] args) {
        newObject();
        refusedTokens();
        fullProgram();
        closingBraces();
        drops();
        runs();
        incompleteRuns();
        places();
        steps();
        depths();
        kindsAndValues();
        dots();
        counts();
        clips();
        points();
        corners();
        exactness();
        BENCH.end();
    }

    private static void newObject() {
        BENCH.sentence("Promise 1: No tokens, a page of dots 0, no run yet");
        StackRaster x = new StackRaster();
        BENCH.due("all", Bench.answers(x), "place -1; steps 0; stack ; path ; page ; clip ");
        BENCH.due("drop()", x.drop(), 0);
        BENCH.due("token(3, 0)", x.token(3, 0), false);
        BENCH.due("run()", x.run(), StackRaster.OK);
        BENCH.due("all behind the run", Bench.answers(x), "place -1; steps 0; stack ; path ; page ; clip ");
    }

    private static void refused(StackRaster x, int kind, int value) {
        BENCH.due("token(" + kind + ", " + value + ")", x.token(kind, value), false);
    }

    private static void refusedTokens() {
        BENCH.sentence("Promise 2: false, and nothing changes, if kind is not 0 to 5");
        StackRaster x = Bench.ran("1 2 moveto 5 { 6 }");
        String before = Bench.answers(x);
        for (int kind : new int[] {-1, 6, 256, -2, MIN, MAX}) {
            for (int value : new int[] {0, 1, 7, MIN, MAX}) {
                refused(x, kind, value);
            }
        }
        keepsProgram(x, before);

        BENCH.sentence("Promise 2: false, and nothing changes, if the value is not as said (not looked at for 2 and 3)");
        for (int value : new int[] {-1, 45, 100, MIN, MAX}) {
            refused(x, 1, value);
        }
        for (int value : new int[] {-1, 8, 44, MIN, MAX}) {
            refused(x, 4, value);
            refused(x, 5, value);
        }
        keepsProgram(x, before);
        for (int value : new int[] {0, -1, 8, 45, MIN, MAX}) {
            StackRaster y = new StackRaster();
            BENCH.due("token(0, " + value + ")", y.token(0, value), true);
            BENCH.due("token(2, " + value + ")", y.token(2, value), true);
            refused(y, 1, 45);
            refused(y, 4, 8);
            BENCH.due("token(3, " + value + ")", y.token(3, value), true);
            BENCH.due("run()", y.run(), 0);
            BENCH.due("stack", Bench.stack(y), value + " p1");
        }
    }

    /** That of refusedTokens: 7 tokens, of which the last 4 are values. */
    private static void keepsProgram(StackRaster x, String before) {
        BENCH.due("what is asked behind refused tokens", Bench.answers(x), before);
        BENCH.due("run() behind refused tokens", x.run(), 0);
        BENCH.due("what is asked behind that run", Bench.answers(x), before);
        BENCH.due("tokens", x.drop(), 7);
        Bench.load(x, "1 2 moveto 5 { 6 }");
    }

    private static void fullProgram() {
        BENCH.sentence("Promise 2: false, and nothing changes, if there are 100 tokens");
        StackRaster x = new StackRaster();
        for (int k = 0; k < 100; k++) {
            BENCH.due("token number " + k, x.token(1, 12 + k % 2), true);
        }
        for (int kind = 0; kind <= 5; kind++) {
            refused(x, kind, 0);
        }
        BENCH.due("run()", x.run(), 0);
        BENCH.due("steps()", x.steps(), 100);
        BENCH.due("drop()", x.drop(), 100);
        BENCH.due("a token behind the drop", x.token(0, 1), true);
        BENCH.due("drop()", x.drop(), 1);
        // A '{' that is open when the program is full stays open.
        for (int k = 0; k < 99; k++) {
            x.token(0, k);
        }
        BENCH.due("'{' as token 100", x.token(2, 0), true);
        refused(x, 3, 0);
        BENCH.due("run()", x.run(), StackRaster.INCOMPLETE);
        BENCH.due("drop()", x.drop(), 100);
        x.token(2, 0);
        for (int k = 1; k < 99; k++) {
            x.token(0, k);
        }
        BENCH.due("'}' as token 100", x.token(3, 0), true);
        BENCH.due("run()", x.run(), 0);
        BENCH.due("stack", Bench.stack(x), "p0");
    }

    private static void closingBraces() {
        BENCH.sentence("Promise 2: false, and nothing changes, if it is a '}' for which no '{' is open");
        StackRaster x = new StackRaster();
        refused(x, 3, 0);
        x.token(0, 5);
        refused(x, 3, 0);
        BENCH.due("{", x.token(2, 0), true);
        BENCH.due("{ {", x.token(2, 0), true);
        BENCH.due("{ { }", x.token(3, 0), true);
        BENCH.due("{ { } }", x.token(3, 0), true);
        refused(x, 3, 0);
        BENCH.due("{ { } } {", x.token(2, 0), true);
        BENCH.due("{ { } } { }", x.token(3, 0), true);
        refused(x, 3, 0);
        BENCH.due("run()", x.run(), 0);
        BENCH.due("stack", Bench.stack(x), "5 p1 p5");
        BENCH.due("drop()", x.drop(), 7);
        refused(x, 3, 0);
    }

    private static void drops() {
        BENCH.sentence("Promise 3: Takes all tokens away; answers how many there were");
        StackRaster x = new StackRaster();
        BENCH.due("of none", x.drop(), 0);
        x.token(0, 1);
        x.token(9, 1);
        BENCH.due("of one, and one refused", x.drop(), 1);
        BENCH.due("again", x.drop(), 0);
        Bench.load(x, "1*100");
        BENCH.due("of 100", x.drop(), 100);
        BENCH.due("run of none", x.run(), 0);
        BENCH.due("steps of none", x.steps(), 0);
        x.token(2, 0);
        x.token(2, 0);
        BENCH.due("of open ones", x.drop(), 2);
        BENCH.due("run behind open ones", x.run(), 0);
        Bench.load(x, "3 gray 0 0 1 1 box fill 1 1 1 1 box clip 7 pop pop");
        x.run();
        String before = Bench.answers(x);
        x.drop();
        BENCH.due("what a run left", Bench.answers(x), before);
    }

    private static void runs() {
        BENCH.sentence("Promise 4: Runs the program: OK or the error's code");
        String[] ends = {"", "pop", "1*25", "5 exec", "1 0 div", "201 0 moveto", "point", "gsave*5", "exit",
            "{ @0 exec } !0 @0 exec", "4 gray", "{ } loop", "1 0 1 { } for"};
        StackRaster x = new StackRaster();
        for (int code = 0; code < ends.length; code++) {
            Bench.load(x, ends[code]);
            BENCH.due(ends[code] + ": run()", x.run(), code);
            BENCH.due(ends[code] + ": run() again", x.run(), code);
        }
        Bench.load(x, "5");
        BENCH.due("run() behind errors", x.run(), StackRaster.OK);
    }

    private static void incompleteRuns() {
        BENCH.sentence("Promise 4: INCOMPLETE, and nothing changes, if a '{' is still open");
        StackRaster x = new StackRaster();
        x.token(2, 0);
        BENCH.due("first run", x.run(), StackRaster.INCOMPLETE);
        BENCH.due("all behind it", Bench.answers(x), "place -1; steps 0; stack ; path ; page ; clip ");
        Bench.load(x, "3 gray 0 0 1 1 box fill 2 2 9 9 box clip 7 { } add");
        BENCH.due("a run with an error", x.run(), 3);
        String before = Bench.answers(x);
        String[] open = {"{", "1 gray 0 0 5 5 box fill wipe {", "{ {", "{ { }", "{ } {", "{ 1 2 add", "pop {"};
        for (String program : open) {
            Bench.load(x, program);
            BENCH.due(program + ": run()", x.run(), StackRaster.INCOMPLETE);
            BENCH.due(program + ": all behind it", Bench.answers(x), before);
            BENCH.due(program + ": tokens", x.drop(), Bench.tokens(program).size());
        }
        Bench.load(x, "5 { {");
        BENCH.due("two open", x.run(), StackRaster.INCOMPLETE);
        x.token(3, 0);
        BENCH.due("one open", x.run(), StackRaster.INCOMPLETE);
        x.token(3, 0);
        BENCH.due("none open", x.run(), 0);
        BENCH.due("stack", Bench.stack(x), "5 p1");
        x.token(2, 0);
        BENCH.due("one more", x.run(), StackRaster.INCOMPLETE);
        BENCH.due("stack", Bench.stack(x), "5 p1");
    }

    private static void places() {
        BENCH.sentence("Promise 5: The number of the token (counted from 0); -1 if it had none or there was none");
        StackRaster x = new StackRaster();
        BENCH.due("no run", x.place(), -1);
        x.token(1, 8);
        BENCH.due("no run, one token", x.place(), -1);
        x.run();
        BENCH.due("at the first token", x.place(), 0);
        x.drop();
        BENCH.due("behind a drop", x.place(), 0);
        x.token(2, 0);
        x.run();
        BENCH.due("behind an INCOMPLETE run", x.place(), 0);
        x.token(3, 0);
        x.run();
        BENCH.due("of a run without an error", x.place(), -1);
        Bench.load(x, "1 pop ".repeat(49) + "1 add");
        x.run();
        BENCH.due("at the last of 100", x.place(), 99);
        x.drop();
        x.run();
        BENCH.due("of no tokens", x.place(), -1);
        BENCH.due("in a procedure", Bench.ran("1 { 2 { pop pop pop } exec } exec").place(), 6);

        BENCH.sentence("Promise 5: For error 11 that of the token that was not executed");
        BENCH.due("a '}'", Bench.ran("{ } loop").place(), 1);
        BENCH.due("an operator", Bench.ran("{ 1 clear } loop").place(), 2);
        BENCH.due("a number", Bench.ran("{ clear 1 } loop").place(), 2);
        BENCH.due("behind the loop", Bench.ran("597 { } repeat 5 6").place(), 4);
    }

    private static void steps() {
        BENCH.sentence("Promise 6: Its steps; 0 if there was none");
        StackRaster x = new StackRaster();
        BENCH.due("no run", x.steps(), 0);
        x.token(2, 0);
        x.run();
        BENCH.due("an INCOMPLETE run alone", x.steps(), 0);
        Bench.load(x, "{ } loop");
        x.run();
        BENCH.due("the most", x.steps(), 600);
        x.drop();
        BENCH.due("behind a drop", x.steps(), 600);
        x.token(2, 0);
        x.run();
        BENCH.due("behind an INCOMPLETE run", x.steps(), 600);
        x.drop();
        x.run();
        BENCH.due("of no tokens", x.steps(), 0);
    }

    private static void depths() {
        BENCH.sentence("Promise 7: How many values are on the stack after it; 0 if there was none");
        StackRaster x = new StackRaster();
        BENCH.due("no run", x.depth(), 0);
        x.token(0, 1);
        x.token(2, 0);
        x.run();
        BENCH.due("an INCOMPLETE run alone", x.depth(), 0);
        x.token(3, 0);
        x.run();
        BENCH.due("of two", x.depth(), 2);
        Bench.load(x, "1*24");
        x.run();
        BENCH.due("of 24", x.depth(), 24);
        x.drop();
        BENCH.due("behind a drop", x.depth(), 24);
        Bench.load(x, "1*25");
        x.run();
        BENCH.due("of 25", x.depth(), 24);
        Bench.load(x, "clear");
        x.run();
        BENCH.due("of none", x.depth(), 0);
    }

    private static void kindAndValue(StackRaster x, int k, int kind, int value) {
        BENCH.due("kind(" + k + ")", x.kind(k), kind);
        BENCH.due("value(" + k + ")", x.value(k), value);
    }

    private static void kindsAndValues() {
        BENCH.sentence("Promises 8 and 9: 0 a number, 1 a procedure; -1 if there is none; its value 0 if there is none");
        for (int k : new int[] {-1, 0, 1, 23, 24, MIN, MAX}) {
            kindAndValue(new StackRaster(), k, -1, 0);
        }
        StackRaster x = Bench.ran("{ } -2147483648 2147483647 { 1 { } } 0");
        int[][] due = {{0, 0, 0}, {1, 1, 4}, {2, 0, MAX}, {3, 0, MIN}, {4, 1, 0}, {5, -1, 0}, {-1, -1, 0}, {MIN, -1, 0},
            {MAX, -1, 0}};
        for (int[] row : due) {
            kindAndValue(x, row[0], row[1], row[2]);
        }
        x = Bench.ran("9 { } 1*22");
        kindAndValue(x, 21, 0, 1);
        kindAndValue(x, 22, 1, 1);
        kindAndValue(x, 23, 0, 9);
        kindAndValue(x, 24, -1, 0);
        kindAndValue(x, -1, -1, 0);
        // Neither what has been taken off nor what an earlier run left is there.
        Bench.load(x, "5 6 { } pop pop");
        x.run();
        kindAndValue(x, 0, 0, 5);
        kindAndValue(x, 1, -1, 0);
        kindAndValue(x, -1, -1, 0);
        kindAndValue(x, -2, -1, 0);
        x = Bench.ran("1 pop ".repeat(49) + "{ }");
        kindAndValue(x, 0, 1, 98);
    }

    private static void dots() {
        BENCH.sentence("Promise 10: The gray of dot (i, j); -1 if there is none");
        StackRaster x = Bench.ran("1 gray 0 0 1 1 box fill 2 gray 23 0 1 1 box fill 3 gray 0 23 1 1 box fill");
        int[][] due = {{0, 0, 1}, {23, 0, 2}, {0, 23, 3}, {23, 23, 0}, {-1, 0, -1}, {0, -1, -1}, {24, 0, -1}, {0, 24, -1},
            {-1, 24, -1}, {24, -1, -1}, {-24, 1, -1}, {24, 22, -1}, {MIN, 0, -1}, {0, MIN, -1}, {MAX, 0, -1}, {0, MAX, -1},
            {MIN, MAX, -1}};
        for (int[] row : due) {
            BENCH.due("dot(" + row[0] + ", " + row[1] + ")", x.dot(row[0], row[1]), row[2]);
        }
    }

    private static void counts() {
        BENCH.sentence("Promise 11: How many dots have gray g");
        StackRaster x = new StackRaster();
        BENCH.due("new, 0", x.count(0), 576);
        for (int g : new int[] {1, 2, 3, -1, 4, MIN, MAX}) {
            BENCH.due("new, " + g, x.count(g), 0);
        }
        x = Bench.ran("3 gray 0 0 24 24 box fill");
        BENCH.due("all 3", x.count(3), 576);
        BENCH.due("none 0", x.count(0), 0);
        BENCH.due("none 4", x.count(4), 0);
        x = Bench.ran("1 gray 0 0 24 1 box fill 2 gray 0 1 24 2 box fill 3 gray 0 23 1 1 box fill");
        int[] due = {503, 24, 48, 1, 0};
        for (int g = 0; g < due.length; g++) {
            BENCH.due("count(" + g + ")", x.count(g), due[g]);
        }
    }

    private static void clips() {
        BENCH.sentence("Promise 12: as a sum of 2^i; all if there was none; 0 if j is not 0 to 23");
        StackRaster x = new StackRaster();
        for (int j = 0; j < 24; j++) {
            BENCH.due("no run, " + j, x.clip(j), WHOLE_ROW);
        }
        x.token(2, 0);
        x.run();
        BENCH.due("an INCOMPLETE run alone", x.clip(0), WHOLE_ROW);
        int[] none = {-1, 24, MIN, MAX};
        for (int j : none) {
            BENCH.due("clip(" + j + ")", x.clip(j), 0);
        }
        BENCH.due("the first dot", Bench.ran("0 0 1 1 box clip").clip(0), 1);
        BENCH.due("the last dot", Bench.ran("23 23 1 1 box clip").clip(23), 8388608);
        BENCH.due("a row", Bench.ran("0 5 24 1 box clip").clip(5), WHOLE_ROW);
        BENCH.due("the row under it", Bench.ran("0 5 24 1 box clip").clip(4), 0);
        BENCH.due("the row over it", Bench.ran("0 5 24 1 box clip").clip(6), 0);
        x = Bench.ran("1 3 4 2 box clip pop");
        BENCH.due("behind an error", x.clip(3), 30);
        x.drop();
        BENCH.due("behind a drop", x.clip(3), 30);
        x.run();
        BENCH.due("behind a run of no tokens", x.clip(3), WHOLE_ROW);
    }

    private static void points() {
        BENCH.sentence("Promise 13: How many points the path has after it; 0 if there was none");
        StackRaster x = new StackRaster();
        BENCH.due("no run", x.points(), 0);
        Bench.load(x, "1 1 moveto {");
        x.run();
        BENCH.due("an INCOMPLETE run alone", x.points(), 0);
        Bench.load(x, "1 1 moveto");
        x.run();
        BENCH.due("of one", x.points(), 1);
        Bench.load(x, "0 0 moveto 48 { 1 0 rlineto } repeat");
        BENCH.due("one too many", x.run(), 7);
        BENCH.due("of 48", x.points(), 48);
        x.drop();
        BENCH.due("behind a drop", x.points(), 48);
        x.run();
        BENCH.due("of a run of no tokens", x.points(), 0);
    }

    private static void corners() {
        BENCH.sentence("Promise 14: what 0: x; 1: y; 2: 1 if a subpath begins with it, plus 2 if its subpath is closed");
        StackRaster x = Bench.ran("200 -200 moveto -200 200 lineto close 3 4 moveto 5 6 lineto 7 8 moveto close 9 9 moveto");
        BENCH.due("path", Bench.path(x), "200,-200,3 -200,200,2 3,4,1 5,6,0 7,8,3 9,9,1");

        BENCH.sentence("Promise 14: -1000 if there is no such point or what");
        int[][] none = {{-1, 0}, {6, 0}, {6, 2}, {47, 0}, {48, 0}, {0, -1}, {0, 3}, {5, 3}, {-1, -1}, {MIN, 0}, {MAX, 1},
            {0, MIN}, {0, MAX}, {MAX, MAX}};
        for (int[] row : none) {
            BENCH.due("corner(" + row[0] + ", " + row[1] + ")", x.corner(row[0], row[1]), -1000);
            BENCH.due("new corner(" + row[0] + ", " + row[1] + ")", new StackRaster().corner(row[0], row[1]), -1000);
        }
        x = Bench.ran("0 0 moveto 47 { 1 2 rlineto } repeat");
        BENCH.due("corner(47, 0)", x.corner(47, 0), 47);
        BENCH.due("corner(47, 1)", x.corner(47, 1), 94);
        BENCH.due("corner(47, 2)", x.corner(47, 2), 0);
        BENCH.due("corner(48, 0)", x.corner(48, 0), -1000);
        Bench.load(x, "fill");
        x.run();
        BENCH.due("of an emptied path", x.corner(0, 0), -1000);
    }

    private static void exactness() {
        BENCH.sentence("Promise 15: device coordinates are worked out exactly, without wrapping, before error 5 is tested");
        // Most of these would come back to within the limits if a product or a sum wrapped as an int.
        String[][] offLimits = {{"4 scale 4 scale 4 scale", "67108864 0"}, {"4 scale 4 scale 4 scale", "0 -67108864"},
            {"2 scale", "-2147483648 0"}, {"2 scale", "0 -2147483648"}, {"4 scale turn", "1073741824 0"},
            {"4 scale turn", "0 1073741824"}, {"turn turn", "-2147483648 0"}, {"turn", "0 -2147483648"},
            {"200 200 translate", "2147483647 0"}, {"-200 -200 translate", "0 -2147483648"},
            {"4 scale 4 scale 4 scale turn turn turn", "67108864 -67108864"}};
        for (String[] row : offLimits) {
            String state = row[0];
            String off = row[1];
            BENCH.refuses(state + " " + off, "moveto", 5);
            BENCH.refuses(state + " " + off, "translate", 5);
            String moved = state + " 0 0 moveto ";
            BENCH.refuses(moved + off, "lineto", 5);
            BENCH.refuses(moved + off, "rmoveto", 5);
            BENCH.refuses(moved + off, "rlineto", 5);
            BENCH.refuses(moved + off + " 0 0 0 0", "curveto", 5);
            BENCH.refuses(moved + "0 0 " + off + " 0 0", "curveto", 5);
            BENCH.refuses(moved + "0 0 0 0 " + off, "curveto", 5);
            BENCH.refuses(moved + off + " 0 0", "box", 5);
            BENCH.refuses(moved + "0 0 " + off, "box", 5);
        }
        BENCH.refuses("200 200 moveto 2147483647 0", "rlineto", 5);
        BENCH.refuses("-200 -200 moveto 0 -2147483648", "rmoveto", 5);
        BENCH.refuses("200 0 2147483647 0", "box", 5);
        BENCH.refuses("0 -200 0 -2147483648", "box", 5);
        BENCH.refuses("4 scale 4 scale 4 scale 1 1 67108864 67108864", "box", 5);
        // The last ones within and the first ones without, on each side.
        String most = "8 -8 translate 4 scale 4 scale 4 scale ";
        BENCH.draws(most + "3 -3 moveto", "200,-200,1");
        BENCH.refuses("9 0 translate 4 scale 4 scale 4 scale 3 0", "moveto", 5);
        BENCH.refuses("0 -9 translate 4 scale 4 scale 4 scale 0 -3", "moveto", 5);
        BENCH.draws(most + "3 -3 translate 0 0 moveto", "200,-200,1");
        BENCH.refuses(most + "3 -4", "translate", 5);
        BENCH.refuses(most + "4 -3", "translate", 5);
        BENCH.draws(most + "3 -3 0 0 box", "200,-200,3 200,-200,2 200,-200,2 200,-200,2");
        BENCH.draws("200 200 moveto -400 0 rmoveto 0 -400 rlineto", "-200,200,1 -200,-200,0");
        BENCH.refuses("200 200 moveto -401 0", "rmoveto", 5);
        BENCH.refuses("200 200 moveto 0 -401", "rlineto", 5);
    }
}
