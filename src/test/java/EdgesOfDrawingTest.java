/** The boundary cases that the document names under "Terms" for the graphics state, the path and the dots. */
public final class EdgesOfDrawingTest {
    private static final Bench BENCH = new Bench();
    private static final int WHOLE_ROW = 16777215;

    public static void main(String[] args) {
        state();
        turns();
        copies();
        factors();
        lengthOfPath();
        movetos();
        currentPoint();
        linesBehindClosed();
        relative();
        closing();
        curves();
        askingPoint();
        dots();
        passing();
        winding();
        openSubpaths();
        clips();
        strokes();
        lengthsOfLines();
        emptiedPaths();
        wipes();
        boxes();
        BENCH.end();
    }

    private static void state() {
        BENCH.sentence("THE GRAPHICS STATE: a transformation, the path, gray (0..3), width (1..6), the clip (a set of dots)");
        for (int gray = 0; gray <= 3; gray++) {
            StackRaster x = Bench.ran("1 gray wipe 0 0 2 1 box fill " + gray + " gray 0 0 1 1 box fill");
            BENCH.due("gray " + gray, x.dot(0, 0), gray);
        }
        for (String n : new String[] {"-1", "4", "-2147483648", "2147483647"}) {
            BENCH.refuses(n, "gray", 10);
        }
        // All dots that lie at most so far from the point (12, 12).
        int[] near = {0, 4, 4, 12, 16, 32};
        for (int width = 1; width <= 6; width++) {
            StackRaster x = Bench.ran("3 gray " + width + " width 12 12 moveto close stroke");
            BENCH.due("dots of width " + width, x.count(3), near[width - 1]);
        }
        for (String n : new String[] {"0", "7", "-1", "-2147483648", "2147483647"}) {
            BENCH.refuses(n, "width", 10);
        }
    }

    private static void turns() {
        BENCH.sentence("from then on (x, y) is first moved by the given x, y, or multiplied by n, or becomes (-y, x)");
        String[] reached = {"7,3,1", "-3,7,1", "-7,-3,1", "3,-7,1"};
        for (int turns = 0; turns <= 8; turns++) {
            BENCH.draws("turn ".repeat(turns) + "7 3 moveto", reached[turns % 4]);
            BENCH.leaves("turn ".repeat(turns) + "7 3 moveto point", "7 3");
        }
        BENCH.draws("0 0 translate 1 scale 7 3 moveto", "7,3,1");
        BENCH.draws("5 0 translate -5 0 translate 7 3 moveto", "7,3,1");
        // What stands in the path already stays where it is.
        BENCH.draws("7 3 moveto turn 2 scale 1 1 translate", "7,3,1");
    }

    private static void copies() {
        BENCH.sentence("gsave puts a copy of all of it on a stack of at most 4");
        BENCH.leaves("gsave gsave gsave gsave", "");
        BENCH.refuses("gsave*4", "gsave", 7);
        BENCH.refuses("gsave*4 grestore gsave", "gsave", 7);
        BENCH.leaves("gsave*4 grestore*4 gsave*4", "");
        BENCH.leaves("gsave*4 grestore*9 gsave*4", "");
        fourCopies();

        BENCH.sentence("grestore takes the latest one back (if there is one)");
        BENCH.draws("1 1 translate 3 3 moveto 5 5 lineto close grestore 6 6 lineto", "4,4,3 6,6,2 4,4,1 7,7,0");
        BENCH.draws("gsave grestore 1 1 translate 3 3 moveto grestore", "4,4,1");
        BENCH.leaves("1 2 gsave 3 grestore", "1 2 3");
        BENCH.leaves("5 !0 gsave 6 !0 grestore @0", "6");
        BENCH.paints("gsave 1 gray 0 0 1 1 box fill grestore", "0,0=1");
    }

    /** Each of four copies holds its own transformation, path, gray, width and clip. */
    private static void fourCopies() {
        String deeper = "1 0 translate 0 0 moveto 1 1 rlineto gsave ";
        BENCH.draws(deeper.repeat(4), "1,0,1 2,1,0 2,0,1 3,1,0 3,0,1 4,1,0 4,0,1 5,1,0");
        BENCH.draws(deeper.repeat(4) + "grestore newpath grestore", "1,0,1 2,1,0 2,0,1 3,1,0 3,0,1 4,1,0");
        BENCH.draws(deeper.repeat(4) + "grestore*4", "1,0,1 2,1,0");
        StackRaster full = Bench.ran(line(48) + "close gsave newpath 9 9 moveto 8 8 lineto grestore");
        BENCH.due("48 points taken back", Bench.path(full), Bench.path(Bench.ran(line(48) + "close")));

        // Each takes (x, y) to (3 - 2 y, 1 + 2 x) and then through the one before.
        String farther = "3 1 translate 2 scale turn gsave ";
        String[] reached = {"13,-5,1", "13,-5,1", "-3,-5,1", "-3,3,1", "1,3,1", "1,3,1"};
        String grays = "1 gray gsave 2 gray gsave 3 gray gsave 1 gray gsave 2 gray ";
        int[] gray = {2, 1, 3, 2, 1, 1};
        String widths = "3 gray 1 width gsave 2 width gsave 4 width gsave 5 width gsave 6 width ";
        int[] near = {32, 16, 12, 4, 0, 0};
        String clips = "gsave 0 0 4 24 box clip gsave 0 0 3 24 box clip gsave 0 0 2 24 box clip gsave 0 0 1 24 box clip ";
        int[] rows = {1, 3, 7, 15, WHOLE_ROW, WHOLE_ROW};
        for (int taken = 0; taken < 6; taken++) {
            String back = "grestore ".repeat(taken);
            BENCH.draws(farther.repeat(4) + back + "1 1 moveto", reached[taken]);
            BENCH.paints(grays + back + "0 0 1 1 box fill", "0,0=" + gray[taken]);
            BENCH.due(widths + back, Bench.ran(widths + back + "9 9 moveto close stroke").count(3), near[taken]);
            BENCH.due(clips + back + ": clip(0)", Bench.ran(clips + back).clip(0), rows[taken]);
            BENCH.due(clips + back + ": clip(23)", Bench.ran(clips + back).clip(23), rows[taken]);
        }
    }

    /** A path of so many points along the lower edge of the page; 11 tokens. */
    private static String line(int points) {
        return "0 0 moveto " + (points - 1) + " { 1 0 rlineto } repeat ";
    }

    private static void factors() {
        BENCH.sentence("Its FACTOR is the product of all scales in it");
        BENCH.draws("4 scale 4 scale 4 scale 3 -3 moveto", "192,-192,1");
        BENCH.draws("1 scale 1 scale 5 5 moveto", "5,5,1");
        BENCH.draws("2 scale 3 scale 1 1 translate 4 scale 1 2 moveto", "30,54,1");

        BENCH.sentence("10 scale not 1..4");
        for (String n : new String[] {"0", "5", "-1", "-4", "-2147483648", "2147483647"}) {
            BENCH.refuses(n, "scale", 10);
        }

        BENCH.sentence("for scale the factor would be above 64");
        BENCH.leaves("4 scale 4 scale 4 scale", "");
        BENCH.leaves("3 scale 3 scale 3 scale 2 scale 1 scale", "");
        BENCH.leaves("2 scale 2 scale 2 scale 2 scale 2 scale 2 scale 1 scale", "");
        BENCH.refuses("4 scale 4 scale 4 scale 2", "scale", 5);
        BENCH.refuses("4 scale 4 scale 3 scale 2", "scale", 5);
        BENCH.refuses("3 scale 3 scale 3 scale 3", "scale", 5);
        for (int turns = 1; turns <= 3; turns++) {
            BENCH.leaves("4 scale 4 scale " + "turn ".repeat(turns) + "4 scale 1 scale", "");
            BENCH.refuses("4 scale 4 scale 4 scale " + "turn ".repeat(turns) + "2", "scale", 5);
        }
        BENCH.leaves("gsave 4 scale 4 scale 4 scale grestore 4 scale 4 scale 4 scale", "");

        BENCH.sentence("for translate the point (0, 0), would have a device coordinate outside -200..200");
        BENCH.draws("200 -200 translate -400 400 translate 0 0 moveto", "-200,200,1");
        BENCH.draws("4 scale 50 -50 translate 0 0 moveto", "200,-200,1");
        BENCH.draws("turn 200 -200 translate 0 0 moveto", "200,200,1");
        for (String off : new String[] {"201 0", "-201 0", "0 201", "0 -201", "2147483647 0", "0 -2147483648"}) {
            BENCH.refuses(off, "translate", 5);
            BENCH.refuses("turn " + off, "translate", 5);
        }
        BENCH.refuses("200 200 translate 0 1", "translate", 5);
        BENCH.refuses("200 200 translate turn turn -1 0", "translate", 5);
        BENCH.refuses("4 scale 51 0", "translate", 5);
    }

    private static void lengthOfPath() {
        BENCH.sentence("THE PATH is a row of at most 48 points in device coordinates");
        BENCH.due("48 points", Bench.ran(line(48)).points(), 48);
        BENCH.refuses(line(48) + "1 0", "rlineto", 7);
        BENCH.refuses(line(48) + "1 0", "lineto", 7);
        BENCH.refuses(line(48) + "1 0", "moveto", 7);
        BENCH.refuses(line(48) + "1 0", "rmoveto", 7);
        BENCH.refuses(line(48) + "1 0 1 0 1 0", "curveto", 7);
        BENCH.due("a moveto as the last", Bench.ran(line(47) + "5 5 moveto").points(), 48);
        BENCH.due("a rmoveto as the last", Bench.ran(line(47) + "5 5 rmoveto").points(), 48);
        BENCH.refuses(line(47) + "5 5 moveto 6 6", "lineto", 7);
        BENCH.due("a curve as the last eight", Bench.ran(line(40) + "1 1 2 2 3 3 curveto").points(), 48);
        BENCH.refuses(line(41) + "1 1 2 2 3 3", "curveto", 7);
        // Behind a closed subpath a line needs two points, and a curve nine.
        BENCH.due("a line as the last two", Bench.ran(line(46) + "close 5 5 lineto").points(), 48);
        BENCH.refuses(line(47) + "close 5 5", "lineto", 7);
        BENCH.due("a relative line as the last two", Bench.ran(line(46) + "close 5 5 rlineto").points(), 48);
        BENCH.refuses(line(47) + "close 5 5", "rlineto", 7);
        BENCH.due("a curve as the last nine", Bench.ran(line(39) + "close 1 1 2 2 3 3 curveto").points(), 48);
        BENCH.refuses(line(40) + "close 1 1 2 2 3 3", "curveto", 7);
        BENCH.due("a close at 48", Bench.ran(line(48) + "close").corner(47, 2), 2);
        BENCH.due("a box at 48", Bench.ran(line(48) + "1 1 1 1 box").points(), 4);
        BENCH.due("as many after a newpath", Bench.ran(line(48) + "newpath " + line(48)).points(), 48);
    }

    private static void movetos() {
        BENCH.sentence("A moveto behind a moveto takes its place");
        BENCH.draws("1 1 moveto 2 2 moveto 3 3 moveto", "3,3,1");
        BENCH.draws("1 1 moveto 2 2 lineto 3 3 moveto 4 4 moveto", "1,1,1 2,2,0 4,4,1");
        BENCH.draws("1 1 moveto close 3 3 moveto 4 4 moveto", "1,1,3 4,4,1");
        BENCH.draws("1 1 moveto 2 2 rmoveto 2 2 rmoveto", "5,5,1");
        BENCH.draws("1 1 moveto clip 2 2 moveto", "2,2,1");
        BENCH.draws("1 1 moveto gsave grestore 2 2 moveto", "2,2,1");
        BENCH.due("as point 48", Bench.path(Bench.ran(line(47) + "5 5 moveto 6 6 moveto")).endsWith(" 46,0,0 6,6,1"), true);
        BENCH.due("relative as point 48", Bench.path(Bench.ran(line(47) + "5 5 moveto 6 6 rmoveto")).endsWith(" 46,0,0 11,11,1"),
                true);
        BENCH.refuses("1 1 moveto 0 201", "moveto", 5);
    }

    private static void currentPoint() {
        BENCH.sentence("The CURRENT POINT is the last one, or after close the first one of that subpath; an empty path has none");
        BENCH.leaves("1 2 moveto point", "1 2");
        BENCH.leaves("1 2 moveto close point", "1 2");
        BENCH.leaves("1 2 moveto 3 4 lineto point", "3 4");
        BENCH.leaves("1 2 moveto 3 4 lineto close point", "1 2");
        BENCH.leaves("1 2 moveto 3 4 lineto close 5 6 moveto 7 8 lineto close point", "5 6");
        BENCH.leaves("1 2 moveto 3 4 lineto close 5 6 lineto point", "5 6");
        BENCH.leaves("1 2 3 4 box point", "1 2");
        // The shortest subpath there is, and the next one.
        BENCH.leaves("1 2 moveto close 5 6 moveto point", "5 6");
        BENCH.leaves("1 2 moveto close 5 6 moveto 7 8 lineto close point", "5 6");
        BENCH.leaves("1 2 moveto close 5 6 moveto close 7 8 moveto close point", "7 8");
        String[] empty = {"", "1 1 moveto newpath", "1 1 moveto fill", "1 1 moveto eofill", "1 1 moveto stroke",
            "gsave 1 1 moveto grestore"};
        for (String before : empty) {
            BENCH.refuses(before + " 1 1", "lineto", 6);
            BENCH.refuses(before + " 1 1", "rmoveto", 6);
            BENCH.refuses(before + " 1 1", "rlineto", 6);
            BENCH.refuses(before + " 1 1 1 1 1 1", "curveto", 6);
            BENCH.refuses(before, "close", 6);
            BENCH.refuses(before, "point", 6);
        }
    }

    private static void linesBehindClosed() {
        BENCH.sentence("if the last subpath is closed, a new one begins with the current point first (so also for curveto)");
        BENCH.draws("1 2 moveto close 7 7 lineto", "1,2,3 1,2,1 7,7,0");
        BENCH.draws("1 2 moveto close 7 7 rlineto", "1,2,3 1,2,1 8,9,0");
        BENCH.draws("1 2 moveto 3 4 lineto close 7 7 lineto 8 8 lineto", "1,2,3 3,4,2 1,2,1 7,7,0 8,8,0");
        BENCH.draws("0 0 moveto 3 4 lineto close 8 0 16 0 24 0 curveto",
                "0,0,3 3,4,2 0,0,1 3,0,0 6,0,0 9,0,0 12,0,0 15,0,0 18,0,0 21,0,0 24,0,0");
        // The subpath before the closed one does not matter.
        BENCH.draws("9 9 moveto 8 8 lineto 1 2 moveto close 7 7 lineto", "9,9,1 8,8,0 1,2,3 1,2,1 7,7,0");
        BENCH.draws("9 9 moveto close 1 2 moveto 7 7 lineto", "9,9,3 1,2,1 7,7,0");
        BENCH.draws("1 1 moveto close 3 3 translate 2 scale 2 2 lineto", "1,1,3 1,1,1 7,7,0");
    }

    private static void relative() {
        BENCH.sentence("rmoveto, rlineto: the new point is the current one plus (x, y) transformed without the moving");
        BENCH.draws("100 100 translate 1 1 moveto 2 3 rlineto", "101,101,1 103,104,0");
        BENCH.draws("100 100 translate 1 1 moveto 2 3 lineto 2 3 rmoveto", "101,101,1 102,103,0 104,106,1");
        BENCH.draws("100 100 translate turn 2 scale 1 1 moveto 2 3 rlineto", "98,102,1 92,106,0");
        BENCH.draws("200 200 moveto -400 -400 rlineto 400 0 rlineto", "200,200,1 -200,-200,0 200,-200,0");
        BENCH.draws("5 5 moveto 0 0 rlineto", "5,5,1 5,5,0");
        BENCH.draws("5 5 moveto 9 9 lineto close 0 1 rmoveto", "5,5,3 9,9,2 5,6,1");
        BENCH.refuses("200 200 moveto 1 0", "rlineto", 5);
        BENCH.refuses("-200 -200 moveto 0 -1", "rmoveto", 5);
    }

    private static void closing() {
        BENCH.sentence("close: the last subpath gets a line back to its first point and is closed (if it isn't yet)");
        BENCH.draws("1 2 moveto close", "1,2,3");
        BENCH.draws("1 2 moveto 3 4 lineto close close close", "1,2,3 3,4,2");
        BENCH.draws("1 1 moveto 2 2 lineto 3 3 moveto 4 4 lineto close", "1,1,1 2,2,0 3,3,3 4,4,2");
        BENCH.draws("1 1 moveto 2 2 lineto close 3 3 moveto 4 4 lineto", "1,1,3 2,2,2 3,3,1 4,4,0");
        BENCH.draws("1 1 2 2 box close", "1,1,3 3,1,2 3,3,2 1,3,2");
        BENCH.leaves("1 2 moveto 7 close", "7");
    }

    private static void curves() {
        BENCH.sentence("for k = 1 to 8, x and y each are ((8-k)^3 P + 3 k (8-k)^2 A + 3 k^2 (8-k) B + k^3 C + 256) / 512, rounded down");
        // Halves go up, also below 0: at k = 4 the sums are 256 and -256.
        BENCH.draws("0 0 moveto 0 0 0 0 4 -4 curveto",
                "0,0,1 0,0,0 0,0,0 0,0,0 1,0,0 1,-1,0 2,-2,0 3,-3,0 4,-4,0");
        BENCH.draws("-200 200 moveto 200 -200 -200 200 200 -200 curveto",
                "-200,200,1 -84,84,0 -25,25,0 -3,3,0 0,0,0 3,-3,0 25,-25,0 84,-84,0 200,-200,0");
        // By a 512th less than a half, at k = 1: the sums are 255 and -255.
        BENCH.draws("0 0 moveto 0 0 12 -12 3 -3 curveto",
                "0,0,1 0,0,0 2,-2,0 3,-3,0 5,-5,0 6,-6,0 6,-6,0 5,-5,0 3,-3,0");
        BENCH.draws("200 200 moveto 200 200 200 200 200 200 curveto", "200,200,1" + " 200,200,0".repeat(8));
        BENCH.draws("7 -7 moveto 7 -7 7 -7 7 -7 curveto", "7,-7,1" + " 7,-7,0".repeat(8));

        BENCH.sentence("one of A, B, C for curveto, would have a device coordinate outside -200..200");
        // Of these curves every new point would be within.
        BENCH.refuses("0 0 moveto 201 0 0 0 0 0", "curveto", 5);
        BENCH.refuses("0 0 moveto 0 -201 0 0 0 0", "curveto", 5);
        BENCH.refuses("0 0 moveto 0 0 -201 0 0 0", "curveto", 5);
        BENCH.refuses("0 0 moveto 0 0 0 201 0 0", "curveto", 5);
        BENCH.refuses("0 0 moveto 0 0 0 0 201 0", "curveto", 5);
        BENCH.refuses("0 0 moveto 0 0 0 0 0 -201", "curveto", 5);
        BENCH.refuses("1 1 moveto close 0 0 0 0 0 -201", "curveto", 5);
    }

    private static void askingPoint() {
        BENCH.sentence("point gives user coordinates of the current point: the transformation undone, the division by the factor rounded down");
        BENCH.leaves("-1 1 moveto 2 scale point", "-1 0");
        BENCH.leaves("-2 2 moveto 2 scale point", "-1 1");
        BENCH.leaves("-3 3 moveto 2 scale point", "-2 1");
        BENCH.leaves("-1 63 moveto 4 scale 4 scale 4 scale point", "-1 0");
        BENCH.leaves("-64 64 moveto 4 scale 4 scale 4 scale point", "-1 1");
        BENCH.leaves("-65 -63 moveto 4 scale 4 scale 4 scale point", "-2 -1");
        BENCH.leaves("1 1 moveto 2 scale turn point", "0 -1");
        BENCH.leaves("1 1 moveto 2 scale turn turn point", "-1 -1");
        BENCH.leaves("1 1 moveto 2 scale turn turn turn point", "-1 0");
        BENCH.leaves("200 -200 moveto -200 200 translate point", "400 -400");
        BENCH.leaves("0 0 moveto 1 1 translate 3 scale point", "-1 -1");
    }

    private static void dots() {
        BENCH.sentence("Dot (i, j), i and j 0..23, has its middle at device (i + 1/2, j + 1/2)");
        BENCH.paints("1 gray 0 0 1 1 box fill 23 0 1 1 box fill 0 23 1 1 box fill 23 23 1 1 box fill",
                "0,0=1 23,0=1 0,23=1 23,23=1");
        BENCH.paints("1 gray -1 -1 1 1 box fill 24 24 1 1 box fill 24 0 9 24 box fill 0 24 24 9 box fill", "");
        BENCH.due("all dots", Bench.ran("1 gray 0 0 24 24 box fill").count(1), 576);
        BENCH.due("all but an edge", Bench.ran("1 gray 1 1 22 22 box fill").count(1), 484);
        BENCH.due("all from far outside", Bench.ran("1 gray -200 -200 400 400 box eofill").count(1), 576);
        BENCH.paints("1 gray 5 5 0 9 box fill 5 5 9 0 box fill", "");

        BENCH.sentence("43 dot i j -- the gray of dot (i, j), -1 if there is none");
        String four = "1 gray 0 0 1 1 box fill 2 gray 23 0 1 1 box fill 3 gray 0 23 1 1 box fill ";
        BENCH.leaves(four + "0 0 dot 23 0 dot 0 23 dot 23 23 dot", "1 2 3 0");
        BENCH.leaves(four + "-1 0 dot 24 0 dot 0 -1 dot 0 24 dot", "-1 -1 -1 -1");
        BENCH.leaves("-2147483648 0 dot 0 2147483647 dot 2147483647 -2147483648 dot", "-1 -1 -1");
    }

    private static void passing() {
        BENCH.sentence("exactly one of b and d is below j + 1/2");
        BENCH.paints("1 gray 3 7 2 1 box fill", "3,7=1 4,7=1");
        // Level lines pass nothing, and a line over no middle's height passes nothing.
        BENCH.paints("1 gray 0 5 moveto 9 5 lineto 4 5 lineto fill", "");

        BENCH.sentence("it is at this height not right of the middle");
        // Through the middles of (0, 0), (1, 1) and (2, 2): not right of them.
        BENCH.paints("1 gray 0 0 moveto 3 3 lineto 0 3 lineto fill", "0,1=1 0,2=1 1,2=1");
        BENCH.paints("1 gray 0 0 moveto 3 3 lineto 3 0 lineto fill", "0,0=1 1,0=1 2,0=1 1,1=1 2,1=1 2,2=1");
        BENCH.paints("1 gray 3 0 moveto 0 3 lineto 0 0 lineto fill", "0,0=1 1,0=1 0,1=1");
        BENCH.paints("1 gray 3 0 moveto 0 3 lineto 3 3 lineto fill", "2,0=1 1,1=1 2,1=1 0,2=1 1,2=1 2,2=1");
        // By a 48th of a dot left of the middle of (0, 11), and right of that of (0, 12).
        StackRaster x = Bench.ran("1 gray 0 0 moveto 1 24 lineto -5 24 lineto -5 0 lineto fill");
        BENCH.due("dots left of the steep line", x.count(1), 12);
        BENCH.due("dot(0, 11)", x.dot(0, 11), 0);
        BENCH.due("dot(0, 12)", x.dot(0, 12), 1);
        x = Bench.ran("1 gray 1 24 moveto 0 0 lineto 1 0 lineto fill");
        BENCH.due("dots right of the steep line", x.count(1), 12);
        BENCH.due("dot(0, 11)", x.dot(0, 11), 1);
        BENCH.due("dot(0, 12)", x.dot(0, 12), 0);
    }

    /** So many rounds about the dot (0, 0), in one subpath. */
    private static String rounds(int times, boolean isUpFirst) {
        String round = isUpFirst ? "0 1 lineto 1 1 lineto 1 0 lineto" : "1 0 lineto 1 1 lineto 0 1 lineto";
        return "0 0 moveto " + times + " { " + round + " 0 0 lineto } repeat ";
    }

    private static void winding() {
        BENCH.sentence("fill makes all dots of the clip gray whose winding is not 0, eofill those whose winding is odd");
        for (int times = 0; times <= 4; times++) {
            for (boolean isUpFirst : new boolean[] {true, false}) {
                String rounds = rounds(times, isUpFirst);
                BENCH.paints("1 gray " + rounds + "fill", times > 0 ? "0,0=1" : "");
                BENCH.paints("1 gray " + rounds + "eofill", times % 2 == 1 ? "0,0=1" : "");
                StackRaster x = Bench.ran(rounds + "clip");
                BENCH.due(rounds + "clip: row 0", x.clip(0), times > 0 ? 1 : 0);
                x = Bench.ran(rounds + "eoclip");
                BENCH.due(rounds + "eoclip: row 0", x.clip(0), times % 2 == 1 ? 1 : 0);
            }
        }
        BENCH.paints("1 gray " + rounds(2, true) + rounds(2, false) + "fill", "");
        BENCH.paints("1 gray " + rounds(2, true) + rounds(1, false) + "eofill", "0,0=1");
        BENCH.paints("1 gray fill eofill", "");
    }

    private static void openSubpaths() {
        BENCH.sentence("for this each subpath that is not closed counts as closed");
        String open = "2 2 moveto 4 2 lineto 4 3 lineto 2 3 lineto ";
        BENCH.paints("1 gray " + open + "fill", "2,2=1 3,2=1");
        BENCH.paints("1 gray " + open + "close fill", "2,2=1 3,2=1");
        BENCH.paints("1 gray " + open + "eofill", "2,2=1 3,2=1");
        BENCH.paints("1 gray " + open + open.replace('2', '6').replace('4', '8').replace('3', '7') + "fill",
                "2,2=1 3,2=1 6,6=1 7,6=1");
        BENCH.due("clip", Bench.clip(Bench.ran(open + "clip")).startsWith("0=0 1=0 2=12 3=0"), true);
        BENCH.paints("1 gray 2 2 moveto fill 2 2 moveto 9 9 lineto fill", "");
        // A stroke has no line there.
        BENCH.paints("1 gray 1 width 0 2 moveto 0 0 lineto 2 0 lineto stroke", "0,0=1 1,0=1 0,1=1");
        BENCH.paints("1 gray 1 width 0 3 moveto 0 0 lineto 3 0 lineto stroke", "0,0=1 1,0=1 2,0=1 0,1=1 0,2=1");
        BENCH.paints("1 gray 1 width 0 3 moveto 0 0 lineto 3 0 lineto close stroke", "0,0=1 1,0=1 2,0=1 0,1=1 1,1=1 0,2=1");
        // The line back is to the first point of its own subpath.
        BENCH.paints("1 gray 1 width 1 0 moveto close 20 20 moveto 21 20 lineto close stroke", "20,19=1 20,20=1");
    }

    private static void clips() {
        BENCH.sentence("clip and eoclip take all others out of the clip");
        for (String operator : new String[] {"clip", "eoclip"}) {
            StackRaster x = Bench.ran(operator);
            for (int j = 0; j < 24; j++) {
                BENCH.due(operator + " with an empty path, row " + j, x.clip(j), 0);
            }
            BENCH.paints(operator + " 1 gray -9 -9 99 99 box fill -9 -9 99 99 box eofill 5 5 moveto 9 9 lineto stroke", "");
            BENCH.due("whole page", Bench.clip(Bench.ran("0 0 24 24 box " + operator)), "");
            BENCH.due("one dot", Bench.ran("23 23 1 1 box " + operator).clip(23), 8388608);
            BENCH.due("no dot comes back", Bench.ran("1 1 1 1 box " + operator + " 0 0 24 24 box " + operator).clip(1), 2);
            BENCH.due("two apart", Bench.ran("1 1 1 1 box " + operator + " 2 1 1 1 box " + operator).clip(1), 0);
            BENCH.draws("1 1 2 2 box " + operator, "1,1,3 3,1,2 3,3,2 1,3,2");
        }

        BENCH.sentence("initclip puts all into the clip");
        BENCH.due("from none", Bench.clip(Bench.ran("clip initclip")), "");
        BENCH.due("from all", Bench.clip(Bench.ran("initclip")), "");
        BENCH.draws("1 1 moveto initclip", "1,1,1");
        BENCH.due("not the copies", Bench.ran("clip gsave initclip grestore").clip(7), 0);
    }

    private static void strokes() {
        BENCH.sentence("stroke makes all dots of the clip gray whose middle is at most width / 2 away from some line of the path");
        // Of the widths only odd ones are ever met just so: by 1/2, 3/2 and 5/2.
        for (int width = 1; width <= 6; width++) {
            StackRaster x = Bench.ran("1 gray " + width + " width 12 -99 moveto 12 99 lineto stroke");
            int columns = width + width % 2;
            BENCH.due("columns of width " + width, x.count(1), 24 * columns);
            BENCH.due("the leftmost of width " + width, x.dot(12 - columns / 2, 0), 1);
            BENCH.due("the rightmost of width " + width, x.dot(11 + columns / 2, 23), 1);
            x = Bench.ran("1 gray " + width + " width -99 12 moveto 99 12 lineto stroke");
            BENCH.due("rows of width " + width, x.count(1), 24 * columns);
        }
        // Beside the ends: (4, 9) is by 1/2 and 1/2 off, (4, 8) by 1/2 and 3/2, which is more than 3/2 in all.
        StackRaster x = Bench.ran("1 gray 3 width 5 10 moveto 9 10 lineto stroke");
        BENCH.due("dots of a short line", x.count(1), 20);
        int[][] due = {{4, 9, 1}, {4, 10, 1}, {9, 9, 1}, {9, 10, 1}, {4, 8, 0}, {4, 11, 0}, {9, 8, 0}, {9, 11, 0}, {3, 9, 0},
            {10, 10, 0}, {5, 8, 1}, {8, 11, 1}, {5, 7, 0}, {8, 12, 0}};
        for (int[] row : due) {
            BENCH.due("dot " + row[0] + " " + row[1], x.dot(row[0], row[1]), row[2]);
        }
        x = Bench.ran("1 gray 3 width 10 5 moveto 10 9 lineto stroke");
        BENCH.due("dots of a short upright line", x.count(1), 20);
        for (int[] row : due) {
            BENCH.due("dot " + row[1] + " " + row[0], x.dot(row[1], row[0]), row[2]);
        }
        // On a slope of 3 in 4 the middle of (4, 1) is away by just 3/2, that of (5, 1) by 21/10.
        x = Bench.ran("1 gray 3 width 0 0 moveto 20 15 lineto stroke");
        BENCH.due("dot(4, 1)", x.dot(4, 1), 1);
        BENCH.due("dot(5, 1)", x.dot(5, 1), 0);
        x = Bench.ran("1 gray 2 width 0 0 moveto 20 15 lineto stroke");
        BENCH.due("dot(4, 1) with width 2", x.dot(4, 1), 0);
        BENCH.paints("1 gray stroke", "");
        BENCH.paints("1 gray 3 3 1 1 box clip newpath 0 3 moveto 9 3 lineto stroke", "3,3=1");
        BENCH.paints("1 gray 1 width 0 -9 moveto 0 2 lineto stroke", "0,0=1 0,1=1");
    }

    private static void lengthsOfLines() {
        BENCH.sentence("a line may have the length 0; a subpath of one point that is not closed has none");
        String around = "4,4=1 5,4=1 4,5=1 5,5=1";
        BENCH.paints("1 gray 5 5 moveto 5 5 lineto stroke", around);
        BENCH.paints("1 gray 5 5 moveto 0 0 rlineto close stroke", around);
        BENCH.paints("1 gray 5 5 moveto close stroke", around);
        BENCH.paints("1 gray 5 5 0 0 box stroke", around);
        BENCH.paints("1 gray 5 5 moveto stroke", "");
        BENCH.paints("1 gray 5 5 moveto 5 5 lineto 9 9 moveto stroke", around);
        BENCH.paints("1 gray 5 5 moveto close 9 9 moveto stroke", around);
        BENCH.paints("1 gray 9 9 moveto 5 5 moveto close stroke", around);
        BENCH.paints("1 gray 5 5 moveto close fill 5 5 moveto close eofill", "");
    }

    private static void emptiedPaths() {
        BENCH.sentence("fill, eofill and stroke empty the path");
        for (String operator : new String[] {"fill", "eofill", "stroke"}) {
            BENCH.draws("1 1 5 5 box " + operator, "");
            BENCH.draws("1 1 moveto " + operator, "");
            BENCH.draws("clip 1 1 5 5 box " + operator, "");
            BENCH.draws(operator, "");
            BENCH.draws(line(48) + operator, "");
            BENCH.draws("1 1 moveto gsave " + operator + " grestore", "1,1,1");
        }
    }

    private static void wipes() {
        BENCH.sentence("wipe makes all dots 0");
        BENCH.due("a whole page", Bench.ran("3 gray 0 0 24 24 box fill wipe").count(0), 576);
        BENCH.due("outside the clip too", Bench.ran("3 gray 0 0 24 24 box fill clip wipe").count(0), 576);
        BENCH.due("whatever gray is", Bench.ran("2 gray wipe").count(0), 576);
        BENCH.draws("1 1 moveto wipe", "1,1,1");
    }

    private static void boxes() {
        BENCH.sentence("44 box x y w h --: newpath, moveto to (x, y), lineto to (x + w, y), (x + w, y + h) and (x, y + h), close");
        BENCH.draws("0 0 0 0 box", "0,0,3 0,0,2 0,0,2 0,0,2");
        BENCH.draws("200 200 -400 -400 box", "200,200,3 -200,200,2 -200,-200,2 200,-200,2");
        BENCH.draws("1 1 moveto 2 2 lineto 3 3 1 1 box", "3,3,3 4,3,2 4,4,2 3,4,2");
        BENCH.refuses("1 1 moveto 2 2 lineto 3 3 198 1", "box", 5);
        BENCH.refuses("1 1 moveto 2 2 lineto 3 3 1 198", "box", 5);
        BENCH.refuses("1 1 moveto 2 2 lineto 3 3 -204 1", "box", 5);
        BENCH.refuses("1 1 moveto 2 2 lineto 3 3 1 -204", "box", 5);
        BENCH.refuses("1 1 moveto 2 2 lineto 201 3 -5 1", "box", 5);
        BENCH.refuses("1 1 moveto 2 2 lineto 3 -201 1 5", "box", 5);
    }
}
