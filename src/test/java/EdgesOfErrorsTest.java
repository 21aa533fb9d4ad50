/** The boundary cases that the document names under "Terms" for errors and their order, steps and the beginning of a run. */
public final class EdgesOfErrorsTest {
    private static final Bench BENCH = new Bench();
    /** A path of 48 points. */
    private static final String FULL_PATH = "0 0 moveto 47 { 1 0 rlineto } repeat ";
    /** The greatest factor. */
    private static final String FACTOR_64 = "4 scale 4 scale 4 scale ";
    private static final String[] TAKES = ("nn nn nn nn nn n nn vv v v vv n - - p np npp np nnnp p - - - nn n - n n -"
            + " nn nn nn nn nnnnnn - - - - - - - - - nn nnnn").split(" ");

    public static void main(String[] args) {
        nothingChanges();
        tooFew();
        wrongKinds();
        noCurrentPoint();
        offLimits();
        orderOfErrors();
        procedures();
        forAtItsEnd();
        steps();
        beginnings();
        dotsStay();
        BENCH.end();
    }

    private static void nothingChanges() {
        BENCH.sentence("ERRORS end the run, the token changes nothing");
        String drawn = "2 gray 1 1 3 2 box fill 0 0 9 9 box clip newpath 5 5 moveto 6 6 lineto close 7 { } ";
        BENCH.refuses(drawn, "add", 3);
        BENCH.refuses(drawn + "clear", "add", 1);
        BENCH.refuses(drawn + "1 0", "div", 4);
        BENCH.refuses(drawn + "0 201", "moveto", 5);
        BENCH.refuses(drawn + "0 201", "lineto", 5);
        BENCH.refuses(drawn + "0 201", "rmoveto", 5);
        BENCH.refuses(drawn + "0 201", "rlineto", 5);
        BENCH.refuses(drawn + "0 0 0 0 0 201", "curveto", 5);
        BENCH.refuses(drawn + "0 0 0 201", "box", 5);
        BENCH.refuses(drawn + "0 201", "translate", 5);
        BENCH.refuses(drawn + "newpath", "close", 6);
        BENCH.refuses(drawn + "gsave*4", "gsave", 7);
        BENCH.refuses(drawn, "exit", 8);
        BENCH.refuses(drawn + "5", "scale", 10);
        BENCH.refuses(drawn + "1 0 1 { }", "for", 12);
        BENCH.refuses(drawn + "1*22", "5", 2);
        StackRaster x = Bench.ran("1 0 div 5 1 gray 0 0 1 1 box fill");
        BENCH.due("what stands behind the error", Bench.drawn(x), "stack 1 0; path ; page ; clip ");
        x = Bench.ran("2 { { 7 pop pop } loop } repeat 5");
        BENCH.due("what stands behind an error in a loop", Bench.answers(x), "place 5; steps 8; stack ; path ; page ; clip ");
    }

    /** What the operator takes but its lowest value, and so one too few. */
    private static void tooFew() {
        BENCH.sentence("1 too few values");
        for (int op = 0; op < TAKES.length; op++) {
            String takes = TAKES[op].replace("-", "");
            for (int there = 0; there < takes.length(); there++) {
                String before = values(takes.substring(takes.length() - there));
                BENCH.refuses(before, Bench.OPERATORS.get(op), 1);
                BENCH.refuses("1 1 moveto " + before, Bench.OPERATORS.get(op), 1);
            }
        }
        BENCH.refuses("", "!7", 1);
        // One number too few, the rest of a wrong kind.
        BENCH.refuses("{ } { } { } { } { }", "curveto", 1);
        BENCH.refuses("1 1 1", "for", 1);
    }

    private static String values(String kinds) {
        return kinds.replace("n", "1 ").replace("v", "1 ").replaceAll("[pq]", "{ } ");
    }

    private static void wrongKinds() {
        BENCH.sentence("3 a value is no number, or no procedure, where one is written");
        for (int op = 0; op < TAKES.length; op++) {
            String takes = TAKES[op].replace("-", "");
            for (int at = 0; at < takes.length(); at++) {
                char other = takes.charAt(at) == 'p' ? 'n' : 'p';
                String before = values(takes.substring(0, at) + other + takes.substring(at + 1));
                if (takes.charAt(at) != 'v') {
                    BENCH.refuses(before, Bench.OPERATORS.get(op), 3);
                    BENCH.refuses("1 1 moveto " + before, Bench.OPERATORS.get(op), 3);
                }
            }
        }
        // Where any value is written, a procedure is none too many.
        BENCH.leaves("{ } dup", "p0 p0");
        BENCH.leaves("{ } pop", "");
        BENCH.leaves("{ } { } exch", "p2 p0");
        BENCH.leaves("{ } { } eq", "0");
        BENCH.leaves("{ } !3 @3", "p0");
        // What lies under the values taken may be of any kind.
        BENCH.leaves("{ } 1 2 add", "p0 3");
        BENCH.leaves("{ } 1 { 5 } if", "p0 5");
    }

    private static void noCurrentPoint() {
        BENCH.sentence("6 no current point (for 30 to 35)");
        BENCH.refuses("1 1", "lineto", 6);
        BENCH.refuses("1 1", "rmoveto", 6);
        BENCH.refuses("1 1", "rlineto", 6);
        BENCH.refuses("1 1 1 1 1 1", "curveto", 6);
        BENCH.refuses("", "close", 6);
        BENCH.refuses("", "point", 6);
        // The others need none.
        BENCH.leaves("newpath gsave grestore fill eofill stroke initclip wipe clip eoclip turn 1 scale 1 1 translate", "");
        BENCH.draws("1 1 moveto", "1,1,1");
        BENCH.draws("1 1 1 1 box", "1,1,3 2,1,2 2,2,2 1,2,2");
    }

    private static void offLimits() {
        BENCH.sentence("5 a new point .. would have a device coordinate outside -200..200");
        String[] within = {"200 0", "-200 0", "0 200", "0 -200"};
        for (String point : within) {
            String device = point.replace(' ', ',');
            BENCH.draws(point + " moveto", device + ",1");
            BENCH.draws("0 0 moveto " + point + " lineto", "0,0,1 " + device + ",0");
            BENCH.draws("0 0 moveto " + point + " rmoveto", device + ",1");
            BENCH.draws("0 0 moveto " + point + " rlineto", "0,0,1 " + device + ",0");
            BENCH.draws(point + " translate 0 0 moveto", device + ",1");
            BENCH.due(point + " to box", Bench.ran(point + " 0 0 box").points(), 4);
            BENCH.due("box by " + point, Bench.ran("0 0 " + point + " box").points(), 4);
            BENCH.due("curve by " + point, Bench.ran("0 0 moveto " + (point + " ").repeat(3) + "curveto").points(), 9);
        }
        String[] without = {"201 0", "-201 0", "0 201", "0 -201"};
        for (String point : without) {
            BENCH.refuses(point, "moveto", 5);
            BENCH.refuses("0 0 moveto " + point, "lineto", 5);
            BENCH.refuses("0 0 moveto " + point, "rmoveto", 5);
            BENCH.refuses("0 0 moveto " + point, "rlineto", 5);
            BENCH.refuses(point, "translate", 5);
            BENCH.refuses(point + " 0 0", "box", 5);
            BENCH.refuses("0 0 " + point, "box", 5);
            BENCH.refuses("0 0 moveto " + point + " 0 0 0 0", "curveto", 5);
            BENCH.refuses("0 0 moveto 0 0 " + point + " 0 0", "curveto", 5);
            BENCH.refuses("0 0 moveto 0 0 0 0 " + point, "curveto", 5);
        }
        // It is the device's coordinates that count, not the user's.
        BENCH.draws("-200 0 translate 400 0 moveto", "200,0,1");
        BENCH.refuses("-200 0 translate -1 0", "moveto", 5);
        BENCH.refuses("2 scale 101 0", "moveto", 5);
    }

    private static void orderOfErrors() {
        BENCH.sentence("The first of these that applies: 1 .. 3");
        BENCH.refuses("{ }", "add", 1);
        BENCH.refuses("5", "if", 1);
        BENCH.refuses("{ } 0", "div", 3);

        BENCH.sentence("The first of these that applies: 1 .. 3 .. 6");
        BENCH.refuses("1", "lineto", 1);
        BENCH.refuses("1 1 1 1 1", "curveto", 1);
        BENCH.refuses("1 { }", "lineto", 3);
        BENCH.refuses("{ } 1", "rlineto", 3);
        BENCH.refuses("{ } 1", "rmoveto", 3);
        BENCH.refuses("1 1 1 1 1 { }", "curveto", 3);

        BENCH.sentence("The first of these that applies: 6 .. 2");
        BENCH.refuses("1*23", "point", 6);
        BENCH.refuses("1*24", "point", 6);

        BENCH.sentence("The first of these that applies: 1 .. 3 .. 4");
        BENCH.refuses("0", "div", 1);
        BENCH.refuses("0", "mod", 1);
        BENCH.refuses("{ } 0", "mod", 3);

        BENCH.sentence("The first of these that applies: 1 .. 3 .. 7 .. 5");
        BENCH.refuses(FULL_PATH + "201", "moveto", 1);
        BENCH.refuses(FULL_PATH + "201 { }", "moveto", 3);
        for (String operator : new String[] {"moveto", "lineto", "rmoveto", "rlineto"}) {
            BENCH.refuses(FULL_PATH + "0 201", operator, 7);
        }
        BENCH.refuses(FULL_PATH + "0 0 0 0 0 201", "curveto", 7);
        BENCH.refuses(FULL_PATH + "close 0 201", "lineto", 7);
        BENCH.refuses(FULL_PATH + "0 0 0 201", "box", 5);

        BENCH.sentence("The first of these that applies: 6 .. 5");
        BENCH.refuses("0 201", "lineto", 6);
        BENCH.refuses("0 201", "rlineto", 6);
        BENCH.refuses("0 201", "rmoveto", 6);
        BENCH.refuses("0 201 0 0 0 0", "curveto", 6);

        BENCH.sentence("The first of these that applies: 1 .. 3 .. 10 .. 5");
        BENCH.refuses("", "index", 1);
        BENCH.refuses("{ }", "index", 3);
        BENCH.refuses(FACTOR_64, "scale", 1);
        BENCH.refuses(FACTOR_64 + "{ }", "scale", 3);
        BENCH.refuses(FACTOR_64 + "5", "scale", 10);
        BENCH.refuses(FACTOR_64 + "0", "scale", 10);
        BENCH.refuses(FACTOR_64 + "4", "scale", 5);

        BENCH.sentence("The first of these that applies: 1 .. 3 .. 12 .. 9");
        BENCH.refuses("0 1 { }", "for", 1);
        BENCH.refuses("{ } 0 1 { }", "for", 3);
        BENCH.refuses("1 0 1 1", "for", 3);
        BENCH.fails(nested(12, "1 0 1 { } for"), 12, 17, "1 0 1 p15");
        BENCH.fails(nested(12, "{ } 0 1 { } for"), 3, 18, "p12 0 1 p16");
        BENCH.fails(nested(12, "0 1 { } for"), 1, 16, "0 1 p14");
        BENCH.fails(nested(12, "5 exec"), 3, 13, "5");
        BENCH.fails(nested(12, "exec"), 1, 12, "");

        BENCH.sentence("12 for with s = 0");
        BENCH.refuses("1 0 1 { }", "for", 12);
        BENCH.refuses("1 0 0 { }", "for", 12);
        BENCH.refuses("0 0 1 { }", "for", 12);
        BENCH.refuses("0 0 0 { }", "for", 12);
        BENCH.leaves("1 -1 1 { } for 1 1 1 { } for", "1 1");
    }

    /** The inner program with so many procedures in progress around it; its first token has that number. */
    private static String nested(int levels, String inner) {
        return "{ ".repeat(levels) + inner + " } exec".repeat(levels);
    }

    private static void procedures() {
        BENCH.sentence("9 a procedure would begin while 12 are in progress");
        BENCH.leaves(nested(12, "5"), "5");
        BENCH.fails(nested(13, "5"), 9, 15, "p12");
        BENCH.fails(nested(12, "{ } exec"), 9, 14, "p12");
        BENCH.fails(nested(12, "1 { } if"), 9, 15, "1 p13");
        BENCH.fails(nested(12, "1 { } { } ifelse"), 9, 17, "1 p13 p15");
        BENCH.fails(nested(12, "1 { } repeat"), 9, 15, "1 p13");
        BENCH.fails(nested(12, "1 1 1 { } for"), 9, 17, "1 1 1 p15");
        BENCH.fails(nested(12, "{ } loop"), 9, 14, "p12");
        // These begin none.
        BENCH.leaves(nested(12, "0 { } if 0 { } repeat -1 { } repeat 2 1 1 { } for 1 -1 2 { } for"), "");
        StackRaster x = Bench.ran("{ @0 exec } !0 @0 exec");
        BENCH.due("a procedure in itself", Bench.answers(x), "place 2; steps 28; stack p0; path ; page ; clip ");

        BENCH.sentence("one counts from its beginning, a loop's from the first time on, until it is over");
        BENCH.leaves(nested(11, "3 { 5 } repeat"), "5 5 5");
        BENCH.leaves(nested(11, "1 1 3 { } for"), "1 2 3");
        BENCH.leaves(nested(10, "0 { 1 add dup 5 eq { exit } if } loop"), "5");
        BENCH.leaves(nested(11, "1 { 5 } repeat { 6 } exec 1 1 1 { } for { 7 exit } loop { 8 } exec"), "5 6 1 7 8");
        BENCH.fails(nested(11, "2 { { } exec } repeat"), 9, 15, "p13");
        BENCH.fails(nested(11, "{ 1 { } if } loop"), 9, 15, "1 p13");
        BENCH.fails(nested(11, "1 1 2 { { } exec } for"), 9, 17, "1 p15");
        BENCH.leaves(nested(10, "2 { { 5 } exec } repeat"), "5 5");
        BENCH.leaves(nested(10, "2 { 2 { 5 } repeat } repeat"), "5 5 5 5");
        // 12 ended by one exit, and 12 more.
        BENCH.leaves("{ " + nested(11, "exit") + " } loop " + nested(12, "5"), "5");
        BENCH.leaves("30 { { } exec } repeat { 5 } exec", "5");
    }

    private static void forAtItsEnd() {
        BENCH.sentence("A number that for would put on at a '}' is error 2 there if 24 values are on the stack");
        BENCH.leaves("1*20 1 1 4 { } for", "1 ".repeat(20) + "1 2 3 4");
        BENCH.fails("1*20 1 1 5 { } for", 2, 24, "1 ".repeat(20) + "1 2 3 4");
        BENCH.due("steps", Bench.ran("1*20 1 1 5 { } for").steps(), 29);
        BENCH.fails("1*20 5 -1 1 { } for", 2, 24, "1 ".repeat(20) + "5 4 3 2");
        BENCH.fails("1*20 1 1 2 { 1*3 } for", 2, 27, "1 ".repeat(21) + "1 1 1");
        // No further number, and so no error.
        BENCH.leaves("1*20 1 1 1 { 1*3 } for", "1 ".repeat(24).trim());
        BENCH.leaves("1*20 2147483647 1 2147483647 { 1*3 } for", "1 ".repeat(20) + "2147483647 1 1 1");
        // Other loops put nothing on.
        BENCH.leaves("1*20 2 { 1*2 } repeat", "1 ".repeat(24).trim());
    }

    private static void steps() {
        BENCH.sentence("Each token that is executed costs a STEP");
        BENCH.due("nothing", Bench.ran("").steps(), 0);
        BENCH.due("one", Bench.ran("5").steps(), 1);
        BENCH.due("a procedure that is not begun", Bench.ran("{ 1 2 3 } pop").steps(), 2);
        BENCH.due("a '}' each time", Bench.ran("3 { } repeat").steps(), 6);
        BENCH.due("a loop left by exit", Bench.ran("{ exit } loop").steps(), 3);
        BENCH.due("the token of an error", Bench.ran("pop 5").steps(), 1);
        BENCH.due("an if that begins nothing", Bench.ran("0 { 5 } if").steps(), 3);

        BENCH.sentence("if 600 are used up, the next one is error 11 instead");
        // 3 tokens, and a '}' for each time.
        endsAt("596 { } repeat", 0, -1, 599);
        endsAt("597 { } repeat", 0, -1, 600);
        endsAt("598 { } repeat", 11, 2, 600);
        endsAt("596 { } repeat 5", 0, -1, 600);
        endsAt("597 { } repeat 5", 11, 4, 600);
        endsAt("596 { } repeat 5 6", 11, 5, 600);
        endsAt("596 { } repeat pop", 1, 4, 600);
        endsAt("597 { } repeat pop", 11, 4, 600);
        endsAt("597 { } repeat { }", 11, 4, 600);
        endsAt("597 { } repeat exit", 11, 4, 600);
        endsAt("597 { } repeat @0", 11, 4, 600);
        endsAt("597 { } repeat !0", 11, 4, 600);
        endsAt("596 { } repeat { 7 }", 0, -1, 600);
        endsAt("{ } loop", 11, 1, 600);
        endsAt("{ 1 pop } loop", 11, 2, 600);
        endsAt("{ 1 pop pop } loop", 1, 3, 5);
        BENCH.due("what was done before", Bench.stack(Bench.ran("5 596 { } repeat 6")), "5");
        BENCH.due("what was done last", Bench.stack(Bench.ran("5 595 { } repeat 6 7")), "5 6");
    }

    private static void endsAt(String program, int error, int place, int steps) {
        StackRaster x = new StackRaster();
        Bench.load(x, program);
        BENCH.due(program + ": run()", x.run(), error);
        BENCH.due(program + ": place()", x.place(), place);
        BENCH.due(program + ": steps()", x.steps(), steps);
    }

    /** The second program on the object that has run the first one. */
    private static StackRaster behind(String first, String second) {
        StackRaster x = Bench.ran(first);
        Bench.load(x, second);
        x.run();
        return x;
    }

    private static void beginnings() {
        BENCH.sentence("At the beginning of each run: no values");
        BENCH.due("behind a full stack", Bench.stack(behind("1*24", "count")), "0");
        BENCH.due("behind an error", Bench.stack(behind("1 2 { } add", "count")), "0");

        BENCH.sentence("At the beginning of each run: variables the number 0");
        String all = "{ 5 } !0 6 !1 { 5 } !2 6 !3 { 5 } !4 6 !5 { 5 } !6 6 !7";
        BENCH.due("a first run", Bench.stack(Bench.ran("@0 @1 @2 @3 @4 @5 @6 @7")), "0 0 0 0 0 0 0 0");
        BENCH.due("a second run", Bench.stack(behind(all, "@0 @1 @2 @3 @4 @5 @6 @7")), "0 0 0 0 0 0 0 0");

        BENCH.sentence("At the beginning of each run: no procedures in progress");
        BENCH.due("behind 12 cut off", Bench.stack(behind(nested(12, "{ } exec"), nested(12, "5"))), "5");
        StackRaster x = behind("{ } loop", "exit");
        BENCH.due("place behind a loop cut off", x.place(), 0);
        BENCH.due("run behind a loop cut off", x.run(), 8);

        BENCH.sentence("At the beginning of each run: no copies");
        BENCH.due("four copies again", behind("gsave*4", "gsave*4").place(), -1);
        BENCH.due("no copy to take back", behind("1 1 moveto gsave", "grestore").points(), 0);

        BENCH.sentence("At the beginning of each run: the transformation leaves points as they are");
        BENCH.due("behind a move", Bench.path(behind("5 6 translate", "1 2 moveto")), "1,2,1");
        BENCH.due("behind a scale", Bench.path(behind(FACTOR_64, "1 2 moveto")), "1,2,1");
        BENCH.due("behind a turn", Bench.path(behind("turn", "1 2 moveto")), "1,2,1");
        BENCH.due("behind a turn: back", Bench.stack(behind("3 4 translate 2 scale turn", "5 7 moveto point")), "5 7");
        BENCH.due("the whole factor again", behind(FACTOR_64, FACTOR_64).place(), -1);

        BENCH.sentence("At the beginning of each run: empty path");
        BENCH.due("behind a path", behind("1 2 moveto 3 4 lineto", "").points(), 0);
        BENCH.due("no current point", behind("1 2 moveto 3 4 lineto", "1 1 lineto").run(), 6);
        BENCH.due("a full path again", behind(FULL_PATH, FULL_PATH).points(), 48);

        BENCH.sentence("At the beginning of each run: gray 0");
        BENCH.due("behind gray 3", behind("3 gray 0 0 2 1 box fill", "0 0 1 1 box fill").dot(0, 0), 0);
        BENCH.due("in a first run", Bench.ran("0 0 9 9 box fill").count(0), 576);

        BENCH.sentence("At the beginning of each run: width 2");
        BENCH.due("in a first run", Bench.ran("1 gray 5 5 moveto close stroke").count(1), 4);
        BENCH.due("no more than 2", Bench.ran("1 gray 5 -99 moveto 5 99 lineto stroke").count(1), 48);
        BENCH.due("behind width 6", behind("6 width", "1 gray 5 5 moveto close stroke").count(1), 4);
        BENCH.due("behind width 1", behind("1 width", "1 gray 5 5 moveto close stroke").count(1), 4);

        BENCH.sentence("At the beginning of each run: all dots in the clip");
        BENCH.due("behind none", Bench.clip(behind("clip", "")), "");
        BENCH.due("behind one dot", behind("4 4 1 1 box clip", "1 gray 0 0 24 24 box fill").count(1), 576);
    }

    private static void dotsStay() {
        BENCH.sentence("The dots stay from run to run, all 0 at first");
        BENCH.due("at first", new StackRaster().count(0), 576);
        StackRaster x = behind("3 gray 0 0 1 1 box fill", "2 gray 23 23 1 1 box fill");
        BENCH.due("of two runs", Bench.page(x), "0,0=3 23,23=2");
        x.drop();
        BENCH.due("behind a drop", Bench.page(x), "0,0=3 23,23=2");
        x.token(2, 0);
        x.run();
        BENCH.due("behind an INCOMPLETE one", Bench.page(x), "0,0=3 23,23=2");
        Bench.load(x, "1 gray 5 5 1 1 box fill pop");
        x.run();
        BENCH.due("of a run with an error", Bench.page(x), "0,0=3 5,5=1 23,23=2");
        Bench.load(x, "gsave wipe grestore");
        x.run();
        BENCH.due("wiped, not saved", Bench.page(x), "");
        BENCH.due("of another object", new StackRaster().count(0), 576);
    }
}
