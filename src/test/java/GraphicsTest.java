/** Promises 10 to 15: the operators 21 to 44, the path, the dots and the clip. */
public final class GraphicsTest {
    private static final Bench BENCH = new Bench();
    private static final int FULL = 16777215;

    public static void main(String[] args) {
        moving();
        lines();
        closing();
        curves();
        boxes();
        transforming();
        askingPoint();
        saving();
        filling();
        stroking();
        clipping();
        dots();
        corners();
        ranges();
        limitsOfPath();
        limitsOfCoordinates();
        exactness();
        orderOfErrors();
        BENCH.end();
    }

    private static void moving() {
        BENCH.draws("1 2 moveto", "1,2,1");
        BENCH.draws("1 2 moveto 3 4 moveto", "3,4,1");
        BENCH.draws("1 2 moveto 3 4 rmoveto", "4,6,1");
        BENCH.draws("1 2 moveto 3 4 lineto 5 6 moveto 7 8 moveto", "1,2,1 3,4,0 7,8,1");
        BENCH.draws("1 2 moveto 3 4 lineto 5 6 rmoveto", "1,2,1 3,4,0 8,10,1");
        BENCH.draws("1 2 moveto close 5 6 moveto", "1,2,3 5,6,1");
        BENCH.draws("1 2 moveto close 5 6 rmoveto", "1,2,3 6,8,1");
        BENCH.draws("1 2 moveto 3 4 lineto newpath", "");
        BENCH.draws("1 2 moveto 3 4 lineto newpath 5 5 moveto", "5,5,1");
        BENCH.leaves("1 2 moveto", "");
    }

    private static void lines() {
        BENCH.draws("1 2 moveto 3 4 lineto 5 6 lineto", "1,2,1 3,4,0 5,6,0");
        BENCH.draws("1 2 moveto 3 4 rlineto 5 6 rlineto", "1,2,1 4,6,0 9,12,0");
        BENCH.draws("1 2 moveto 1 2 lineto 0 0 rlineto", "1,2,1 1,2,0 1,2,0");
        BENCH.leaves("9 1 2 moveto 3 4 lineto 5 6 rlineto", "9");
    }

    private static void closing() {
        BENCH.draws("1 2 moveto close", "1,2,3");
        BENCH.draws("1 2 moveto 3 4 lineto 5 6 lineto close close", "1,2,3 3,4,2 5,6,2");
        BENCH.draws("1 2 moveto 3 4 lineto close 7 7 lineto", "1,2,3 3,4,2 1,2,1 7,7,0");
        BENCH.draws("1 2 moveto 3 4 lineto close 7 7 rlineto", "1,2,3 3,4,2 1,2,1 8,9,0");
        BENCH.draws("1 2 moveto 3 4 lineto close 7 7 rmoveto", "1,2,3 3,4,2 8,9,1");
        BENCH.draws("1 2 moveto 3 4 lineto close 7 7 lineto close 1 1 rlineto",
                "1,2,3 3,4,2 1,2,3 7,7,2 1,2,1 2,3,0");
        BENCH.draws("1 2 moveto 3 4 lineto 5 5 moveto 6 6 lineto close", "1,2,1 3,4,0 5,5,3 6,6,2");
        BENCH.draws("1 2 moveto close close", "1,2,3");
    }

    private static void curves() {
        // By hand from the formula: 24 to the right along a flat curve is 3 each eighth.
        BENCH.draws("0 0 moveto 8 0 16 0 24 0 curveto", "0,0,1 3,0,0 6,0,0 9,0,0 12,0,0 15,0,0 18,0,0 21,0,0 24,0,0");
        BENCH.draws("0 0 moveto 0 8 8 8 8 0 curveto", "0,0,1 0,3,0 1,5,0 3,6,0 4,6,0 5,6,0 7,5,0 8,3,0 8,0,0");
        BENCH.draws("0 0 moveto 0 -8 -8 -8 -8 0 curveto", "0,0,1 0,-3,0 -1,-4,0 -3,-6,0 -4,-6,0 -5,-6,0 -7,-4,0 -8,-3,0 -8,0,0");
        BENCH.draws("5 5 moveto close 5 5 5 5 5 5 curveto", "5,5,3 5,5,1" + " 5,5,0".repeat(8));
        BENCH.draws("-200 200 moveto -200 200 -200 200 -200 200 curveto", "-200,200,1" + " -200,200,0".repeat(8));
        BENCH.draws("1 1 translate 2 scale 0 0 moveto 4 0 8 0 12 0 curveto",
                "1,1,1 4,1,0 7,1,0 10,1,0 13,1,0 16,1,0 19,1,0 22,1,0 25,1,0");
    }

    private static void boxes() {
        BENCH.draws("2 3 10 6 box", "2,3,3 12,3,2 12,9,2 2,9,2");
        BENCH.draws("9 9 moveto 8 8 lineto 2 3 -1 -2 box", "2,3,3 1,3,2 1,1,2 2,1,2");
        BENCH.draws("turn 2 3 10 6 box", "-3,2,3 -3,12,2 -9,12,2 -9,2,2");
        BENCH.draws("2 3 0 0 box 7 7 lineto", "2,3,3 2,3,2 2,3,2 2,3,2 2,3,1 7,7,0");
        BENCH.leaves("7 2 3 10 6 box point", "7 2 3");
    }

    private static void transforming() {
        BENCH.draws("3 4 translate 1 2 moveto", "4,6,1");
        BENCH.draws("3 scale 1 2 moveto", "3,6,1");
        BENCH.draws("turn 1 2 moveto", "-2,1,1");
        BENCH.draws("turn turn 1 2 moveto", "-1,-2,1");
        BENCH.draws("turn turn turn 1 2 moveto", "2,-1,1");
        BENCH.draws("turn turn turn turn 1 2 moveto", "1,2,1");
        BENCH.draws("3 4 translate 2 scale 1 2 moveto", "5,8,1");
        BENCH.draws("2 scale 3 4 translate 1 2 moveto", "8,12,1");
        BENCH.draws("turn 3 4 translate 1 2 moveto", "-6,4,1");
        BENCH.draws("3 4 translate turn 1 2 moveto", "1,5,1");
        BENCH.draws("2 scale turn 5 0 translate 3 scale 1 2 moveto", "-12,16,1");
        BENCH.draws("10 20 translate 2 scale turn 1 1 moveto 3 4 rlineto 1 0 rmoveto", "8,22,1 0,28,0 0,30,1");
        BENCH.draws("1 1 moveto 2 scale 2 2 lineto turn 1 1 rlineto", "1,1,1 4,4,0 2,6,0");
    }

    private static void askingPoint() {
        BENCH.leaves("5 6 moveto point", "5 6");
        BENCH.leaves("5 6 moveto 7 8 lineto point", "7 8");
        BENCH.leaves("5 6 moveto 7 8 lineto close point", "5 6");
        BENCH.leaves("5 6 moveto 2 3 translate point", "3 3");
        BENCH.leaves("5 6 moveto turn point", "6 -5");
        BENCH.leaves("5 6 moveto turn turn point", "-5 -6");
        BENCH.leaves("5 6 moveto turn turn turn point", "-6 5");
        BENCH.leaves("5 -5 moveto 2 scale point", "2 -3");
        BENCH.leaves("5 -5 moveto 2 scale turn point", "-3 -3");
        BENCH.leaves("-5 -5 moveto 2 scale turn point", "-3 2");
        BENCH.leaves("-1 1 moveto 4 scale 4 scale 4 scale point", "-1 0");
        BENCH.leaves("2 3 translate 3 scale turn 4 -5 moveto point", "4 -5");
        BENCH.leaves("5 6 moveto gsave newpath 1 1 moveto grestore point", "5 6");
    }

    private static void saving() {
        BENCH.draws("grestore 1 1 moveto grestore", "1,1,1");
        BENCH.draws("3 5 translate turn 2 scale gsave 7 1 translate turn 3 scale grestore 10 20 moveto", "-37,25,1");
        BENCH.draws("3 5 translate 2 scale gsave 7 1 translate turn 3 scale grestore 10 20 moveto", "23,45,1");
        BENCH.draws("turn gsave grestore 1 2 moveto", "-2,1,1");
        BENCH.draws("1 1 moveto gsave 2 2 lineto close 3 scale turn 5 5 translate grestore 4 4 lineto", "1,1,1 4,4,0");
        BENCH.draws("gsave 1 1 translate gsave 2 2 translate grestore 0 0 moveto grestore 7 7 moveto", "7,7,1");
        BENCH.draws("gsave 1 1 translate gsave 2 2 translate grestore 0 0 moveto", "1,1,1");
        BENCH.draws("gsave*4 grestore*4 gsave*4 1 1 moveto grestore*5", "");
        BENCH.fails("gsave*5", 7, 4, "");
        BENCH.fails("gsave*4 grestore gsave gsave", 7, 6, "");
        BENCH.paints("2 gray gsave 3 gray grestore 1 1 2 1 box fill", "1,1=2 2,1=2");
        BENCH.paints("1 gray 1 width gsave 6 width grestore 4 4 moveto 5 4 lineto stroke", "4,3=1 4,4=1");
        BENCH.paints("1 gray gsave 1 1 1 1 box fill grestore", "1,1=1");
        StackRaster x = Bench.ran("gsave 4 4 2 2 box clip grestore");
        BENCH.due("clip restored", x.clip(0), FULL);
        x = Bench.ran("4 4 2 2 box clip gsave initclip grestore");
        BENCH.due("clip row 4 restored", x.clip(4), 48);
        BENCH.due("clip row 6 restored", x.clip(6), 0);
    }

    private static void filling() {
        BENCH.paints("1 gray 2 3 2 1 box fill", "2,3=1 3,3=1");
        BENCH.paints("1 gray fill eofill stroke", "");
        BENCH.paints("1 gray 2 3 moveto 4 3 lineto 4 4 lineto 2 4 lineto fill", "2,3=1 3,3=1");
        // A slanted side through middles: a line that goes just through a middle passes it.
        BENCH.paints("1 gray 0 0 moveto 3 3 lineto 0 3 lineto fill", "0,1=1 0,2=1 1,2=1");
        BENCH.paints("1 gray 0 0 moveto 3 0 lineto 3 3 lineto fill", "0,0=1 1,0=1 2,0=1 1,1=1 2,1=1 2,2=1");
        BENCH.paints("1 gray 0 0 moveto 3 3 lineto 3 0 lineto fill", "0,0=1 1,0=1 2,0=1 1,1=1 2,1=1 2,2=1");
        String twice = "0 0 moveto 3 0 lineto 3 3 lineto 0 3 lineto close 1 1 moveto 2 1 lineto 2 2 lineto 1 2 lineto close ";
        String ring = "0 0 moveto 3 0 lineto 3 3 lineto 0 3 lineto close 1 1 moveto 1 2 lineto 2 2 lineto 2 1 lineto close ";
        String hole = "0,0=2 1,0=2 2,0=2 0,1=2 2,1=2 0,2=2 1,2=2 2,2=2";
        String whole = "0,0=2 1,0=2 2,0=2 0,1=2 1,1=2 2,1=2 0,2=2 1,2=2 2,2=2";
        BENCH.paints("2 gray " + twice + "fill", whole);
        BENCH.paints("2 gray " + twice + "eofill", hole);
        BENCH.paints("2 gray " + ring + "fill", hole);
        BENCH.paints("2 gray " + ring + "eofill", hole);
        BENCH.draws("1 1 3 3 box fill", "");
        BENCH.draws("1 1 3 3 box eofill", "");
        BENCH.draws("1 1 3 3 box stroke", "");
        BENCH.paints("3 gray -5 -5 8 6 box fill", "0,0=3 1,0=3 2,0=3");
        BENCH.due("whole page", Bench.ran("3 gray -200 -200 400 400 box fill").count(3), 576);
        BENCH.paints("3 gray 0 0 2 1 box fill 0 gray 1 0 2 2 box fill", "0,0=3");
    }

    private static void stroking() {
        BENCH.paints("1 gray 5 5 moveto stroke", "");
        BENCH.paints("1 gray 5 5 moveto 7 7 moveto stroke", "");
        BENCH.paints("1 gray 5 5 moveto close stroke", "4,4=1 5,4=1 4,5=1 5,5=1");
        BENCH.paints("1 gray 5 5 moveto 5 5 lineto stroke", "4,4=1 5,4=1 4,5=1 5,5=1");
        BENCH.paints("1 gray 1 width 5 5 moveto close stroke", "");
        BENCH.paints("1 gray 1 width 5 5 moveto 7 5 lineto stroke", "5,4=1 6,4=1 5,5=1 6,5=1");
        BENCH.paints("1 gray 5 5 moveto 7 5 lineto stroke", "4,4=1 5,4=1 6,4=1 7,4=1 4,5=1 5,5=1 6,5=1 7,5=1");
        BENCH.paints("1 gray 5 5 moveto 5 6 lineto stroke", "4,4=1 5,4=1 4,5=1 5,5=1 4,6=1 5,6=1");
        // 8 by 4 dots beside the line, and half of the 12 dots around a point at each end.
        BENCH.due("width 4, flat", Bench.ran("1 gray 4 width 5 9 moveto 13 9 lineto stroke").count(1), 44);
        BENCH.due("width 4, upright", Bench.ran("1 gray 4 width 9 5 moveto 9 13 lineto stroke").count(1), 44);
        BENCH.due("width 4, downright", Bench.ran("1 gray 4 width 9 13 moveto 9 5 lineto stroke").count(1), 44);
        BENCH.paints("1 gray 3 width 5 5 moveto 5 5 lineto stroke", "4,4=1 5,4=1 4,5=1 5,5=1");
        BENCH.due("width 4", Bench.ran("1 gray 4 width 5 5 moveto close stroke").count(1), 12);
        BENCH.due("width 5", Bench.ran("1 gray 5 width 5 5 moveto close stroke").count(1), 16);
        BENCH.due("width 6", Bench.ran("1 gray 6 width 5 5 moveto close stroke").count(1), 32);
        BENCH.paints("1 gray 1 width 0 0 moveto 2 2 lineto stroke", "0,0=1 1,1=1");
        BENCH.paints("1 gray 1 width 3 4 moveto 3 8 lineto stroke", "2,4=1 3,4=1 2,5=1 3,5=1 2,6=1 3,6=1 2,7=1 3,7=1");
        // On a slope of 3 in 4 the middles of (1, 0), (2, 2), (5, 3) and (6, 5) are away by just a half.
        BENCH.paints("1 gray 1 width 0 0 moveto 8 6 lineto stroke",
                "0,0=1 1,0=1 1,1=1 2,1=1 2,2=1 3,2=1 4,3=1 5,3=1 5,4=1 6,4=1 6,5=1 7,5=1");
        BENCH.paints("1 gray 1 width 1 1 moveto 3 1 lineto 3 3 lineto stroke",
                "1,0=1 2,0=1 1,1=1 2,1=1 3,1=1 2,2=1 3,2=1");
        BENCH.paints("1 gray 1 width 1 1 moveto 3 1 lineto 3 3 lineto close stroke",
                "1,0=1 2,0=1 1,1=1 2,1=1 3,1=1 2,2=1 3,2=1");
        BENCH.paints("1 gray 1 width 0 0 moveto 0 4 lineto 4 4 lineto stroke",
                "0,0=1 0,1=1 0,2=1 0,3=1 1,3=1 2,3=1 3,3=1 0,4=1 1,4=1 2,4=1 3,4=1");
        BENCH.paints("1 gray 1 width 0 0 moveto 0 4 lineto 4 4 lineto close stroke",
                "0,0=1 0,1=1 1,1=1 0,2=1 2,2=1 0,3=1 1,3=1 2,3=1 3,3=1 0,4=1 1,4=1 2,4=1 3,4=1");
        BENCH.paints("1 gray 4 scale 1 1 moveto close stroke", "3,3=1 4,3=1 3,4=1 4,4=1");
    }

    private static void clipping() {
        StackRaster x = Bench.ran("2 3 4 2 box clip");
        BENCH.due("clip keeps the path", x.points(), 4);
        int[] rows = {0, 0, 0, 60, 60, 0};
        for (int j = 0; j < rows.length; j++) {
            BENCH.due("clip " + j, x.clip(j), rows[j]);
        }
        int[] none = {-1, 24, Integer.MIN_VALUE, Integer.MAX_VALUE};
        for (int j : none) {
            BENCH.due("clip " + j, x.clip(j), 0);
            BENCH.due("new clip " + j, new StackRaster().clip(j), 0);
        }
        x = Bench.ran("2 3 4 2 box clip 3 0 9 9 box clip");
        BENCH.due("narrower clip", x.clip(3), 56);
        x = Bench.ran("2 3 4 2 box clip 3 0 9 9 box clip initclip");
        BENCH.due("initclip", x.clip(3), FULL);
        x = Bench.ran("clip");
        BENCH.due("clip with no path", x.clip(5), 0);
        x = Bench.ran("eoclip");
        BENCH.due("eoclip with no path", x.clip(5), 0);
        String twice = "0 0 moveto 3 0 lineto 3 3 lineto 0 3 lineto close 1 1 moveto 2 1 lineto 2 2 lineto 1 2 lineto close ";
        BENCH.due("clip by winding", Bench.ran(twice + "clip").clip(1), 7);
        BENCH.due("clip by odd winding", Bench.ran(twice + "eoclip").clip(1), 5);
        BENCH.due("eoclip keeps the path", Bench.ran(twice + "eoclip").points(), 8);
        BENCH.paints("2 3 4 2 box clip 1 gray 0 0 24 24 box fill",
                "2,3=1 3,3=1 4,3=1 5,3=1 2,4=1 3,4=1 4,4=1 5,4=1");
        BENCH.paints("2 3 2 1 box clip 1 gray eofill 2 gray 3 3 9 9 box eofill", "2,3=1 3,3=2");
        BENCH.paints("2 3 2 1 box clip newpath 1 gray 0 3 moveto 9 3 lineto stroke", "2,3=1 3,3=1");
        BENCH.paints("1 gray 2 3 2 1 box fill 0 0 1 1 box clip wipe", "");
    }

    private static void dots() {
        StackRaster x = Bench.ran("1 gray 0 0 1 1 box fill 2 gray 23 23 1 1 box fill 3 gray 23 0 1 1 box fill");
        int[][] due = {{0, 0, 1}, {23, 23, 2}, {23, 0, 3}, {0, 23, 0}, {-1, 0, -1}, {0, -1, -1}, {24, 0, -1}, {0, 24, -1},
            {Integer.MIN_VALUE, 0, -1}, {0, Integer.MAX_VALUE, -1}};
        for (int[] row : due) {
            BENCH.due("dot " + row[0] + " " + row[1], x.dot(row[0], row[1]), row[2]);
            String asked = "1 gray 0 0 1 1 box fill 2 gray 23 23 1 1 box fill 3 gray 23 0 1 1 box fill ";
            BENCH.leaves(asked + row[0] + " " + row[1] + " dot", "" + row[2]);
        }
        int[][] counts = {{0, 573}, {1, 1}, {2, 1}, {3, 1}, {4, 0}, {-1, 0}, {Integer.MAX_VALUE, 0}, {Integer.MIN_VALUE, 0}};
        for (int[] row : counts) {
            BENCH.due("count " + row[0], x.count(row[0]), row[1]);
        }
        Bench.load(x, "pop");
        x.run();
        BENCH.due("dots stay from run to run", Bench.page(x), "0,0=1 23,0=3 23,23=2");
        Bench.load(x, "2 gray 0 0 dot wipe 0 0 dot");
        x.run();
        BENCH.due("before and after wipe", Bench.stack(x), "1 0");
        BENCH.due("wiped", x.count(0), 576);
        BENCH.leaves("5 5 translate turn 1 gray 0 0 1 1 box fill 4 5 dot 0 0 dot", "1 0");
    }

    private static void corners() {
        StackRaster x = Bench.ran("1 -2 moveto 3 4 lineto close 5 6 moveto 7 8 lineto");
        BENCH.due("points", x.points(), 4);
        int[][] due = {{0, 0, 1}, {0, 1, -2}, {0, 2, 3}, {1, 2, 2}, {2, 2, 1}, {3, 0, 7}, {3, 1, 8}, {3, 2, 0}, {4, 0, -1000},
            {-1, 0, -1000}, {0, 3, -1000}, {0, -1, -1000}, {48, 2, -1000}, {Integer.MAX_VALUE, 0, -1000},
            {Integer.MIN_VALUE, 0, -1000}, {0, Integer.MAX_VALUE, -1000}, {0, Integer.MIN_VALUE, -1000}};
        for (int[] row : due) {
            BENCH.due("corner " + row[0] + " " + row[1], x.corner(row[0], row[1]), row[2]);
        }
        Bench.load(x, "{");
        x.run();
        BENCH.due("path outlives an incomplete run", x.points(), 4);
        x.token(3, 0);
        x.run();
        BENCH.due("points of the next run", x.points(), 0);
        BENCH.due("corner of the next run", x.corner(0, 0), -1000);
    }

    private static void ranges() {
        String[] bad = {"0 scale", "5 scale", "-1 scale", "-1 gray", "4 gray", "0 width", "7 width", "2147483647 scale",
            "-2147483648 gray", "-2147483648 width"};
        for (String program : bad) {
            BENCH.fails(program, 10, 1, program.split(" ")[0]);
        }
        String[] good = {"1 scale", "4 scale", "0 gray", "3 gray", "1 width", "6 width"};
        for (String program : good) {
            BENCH.leaves(program, "");
        }
        BENCH.leaves("4 scale 4 scale 4 scale 1 scale", "");
        BENCH.fails("4 scale 4 scale 4 scale 2 scale", 5, 7, "2");
        BENCH.fails("3 scale 3 scale 3 scale 3 scale", 5, 7, "3");
        BENCH.fails("4 scale 4 scale 4 scale turn 2 scale", 5, 8, "2");
        BENCH.fails("4 scale 4 scale 4 scale turn turn turn 4 scale", 5, 10, "4");
        BENCH.fails("4 scale 4 scale 4 scale 5 scale", 10, 7, "5");
        BENCH.leaves("gsave 4 scale 4 scale 4 scale grestore 4 scale 4 scale 4 scale", "");
    }

    private static void limitsOfPath() {
        String lines = "0 0 moveto %d { 1 0 rlineto } repeat ";
        String full = lines.replace("%d", "47");
        BENCH.due("48 points", Bench.ran(full).points(), 48);
        BENCH.fails(lines.replace("%d", "48"), 7, 7, "1 0");
        BENCH.fails(full + "5 5 lineto", 7, 12, "5 5");
        BENCH.fails(full + "5 5 moveto", 7, 12, "5 5");
        BENCH.fails(full + "5 5 rmoveto", 7, 12, "5 5");
        BENCH.fails(full + "5 5 rlineto", 7, 12, "5 5");
        BENCH.due("close at 48", Bench.ran(full + "close").corner(47, 2), 2);
        BENCH.fails(lines.replace("%d", "46") + "close 5 5 lineto", 7, 13, "5 5");
        BENCH.fails(lines.replace("%d", "46") + "close 5 5 rlineto", 7, 13, "5 5");
        BENCH.due("moveto as 48th", Bench.ran(lines.replace("%d", "46") + "close 5 5 moveto 6 6 moveto 1 1 rmoveto").points(), 48);
        BENCH.due("two at once", Bench.ran(lines.replace("%d", "45") + "close 5 5 lineto").points(), 48);
        BENCH.due("eight at once", Bench.ran(lines.replace("%d", "39") + "1 1 2 2 3 3 curveto").points(), 48);
        BENCH.fails(lines.replace("%d", "40") + "1 1 2 2 3 3 curveto", 7, 16, "1 1 2 2 3 3");
        BENCH.due("nine at once", Bench.ran(lines.replace("%d", "38") + "close 1 1 2 2 3 3 curveto").points(), 48);
        BENCH.fails(lines.replace("%d", "39") + "close 1 1 2 2 3 3 curveto", 7, 17, "1 1 2 2 3 3");
        BENCH.draws(full + "1 1 1 1 box", "1,1,3 2,1,2 2,2,2 1,2,2");
    }

    private static void limitsOfCoordinates() {
        BENCH.draws("200 -200 moveto -200 200 lineto", "200,-200,1 -200,200,0");
        String[] off = {"201 0", "-201 0", "0 201", "0 -201"};
        for (String point : off) {
            BENCH.fails(point + " moveto", 5, 2, point);
            BENCH.fails(point + " translate", 5, 2, point);
            BENCH.fails("0 0 moveto " + point + " lineto", 5, 5, point);
            BENCH.fails("0 0 moveto " + point + " rlineto", 5, 5, point);
            BENCH.fails("0 0 moveto " + point + " rmoveto", 5, 5, point);
            BENCH.fails("0 0 moveto " + point + " 0 0 0 0 curveto", 5, 9, point + " 0 0 0 0");
            BENCH.fails("0 0 moveto 0 0 " + point + " 0 0 curveto", 5, 9, "0 0 " + point + " 0 0");
            BENCH.fails("0 0 moveto 0 0 0 0 " + point + " curveto", 5, 9, "0 0 0 0 " + point);
            BENCH.fails(point + " 0 0 box", 5, 4, point + " 0 0");
            BENCH.fails("0 0 " + point + " box", 5, 4, "0 0 " + point);
        }
        StackRaster x = Bench.ran("1 1 moveto 2 2 lineto close 0 201 lineto");
        BENCH.due("an error adds no point", Bench.path(x), "1,1,3 2,2,2");
        x = Bench.ran("1 1 moveto 2 2 lineto 0 0 9 201 box");
        BENCH.due("an error keeps the path", Bench.path(x), "1,1,1 2,2,0");
        x = Bench.ran("1 1 moveto 201 2 moveto");
        BENCH.due("an error keeps the moveto", Bench.path(x), "1,1,1");
        x = Bench.ran("1 1 moveto close 0 0 0 0 0 201 curveto");
        BENCH.due("an error draws no curve", Bench.path(x), "1,1,3");
        BENCH.leaves("200 200 translate -200 -200 translate 200 -200 translate", "");
        BENCH.fails("2 scale 101 0 translate", 5, 4, "101 0");
        BENCH.fails("150 0 translate turn 0 -51 translate", 5, 6, "0 -51");
        BENCH.draws("200 200 translate 0 0 moveto -400 -400 rlineto", "200,200,1 -200,-200,0");
    }

    private static void exactness() {
        // Each of these would come back into the page if it wrapped as an int.
        String[] scaled = {"67108864 0", "0 67108864", "-67108864 0", "0 1073741824", "-2147483648 -2147483648"};
        String scale = "4 scale 4 scale 4 scale ";
        for (String point : scaled) {
            BENCH.fails(scale + point + " moveto", 5, 8, point);
            BENCH.fails(scale + point + " translate", 5, 8, point);
            BENCH.fails(scale + "0 0 moveto " + point + " lineto", 5, 11, point);
            BENCH.fails(scale + "0 0 moveto " + point + " rmoveto", 5, 11, point);
            BENCH.fails(scale + "0 0 moveto " + point + " rlineto", 5, 11, point);
            BENCH.fails(scale + "0 0 moveto " + point + " 0 0 0 0 curveto", 5, 15, point + " 0 0 0 0");
            BENCH.fails(scale + "0 0 moveto 0 0 " + point + " 0 0 curveto", 5, 15, "0 0 " + point + " 0 0");
            BENCH.fails(scale + "0 0 moveto 0 0 0 0 " + point + " curveto", 5, 15, "0 0 0 0 " + point);
            BENCH.fails(scale + point + " 0 0 box", 5, 10, point + " 0 0");
            BENCH.fails(scale + "turn " + point + " moveto", 5, 9, point);
        }
        BENCH.fails("200 200 moveto 2147483647 2147483647 rlineto", 5, 5, "2147483647 2147483647");
        BENCH.fails("-200 -200 moveto -2147483648 0 rmoveto", 5, 5, "-2147483648 0");
        BENCH.fails("200 0 translate 2147483647 0 translate", 5, 5, "2147483647 0");
        BENCH.fails("turn 0 -2147483648 moveto", 5, 3, "0 -2147483648");
        BENCH.fails("2147483647 0 2147483647 1 box", 5, 4, "2147483647 0 2147483647 1");
        BENCH.fails("4 scale 0 0 0 1073741824 box", 5, 6, "0 0 0 1073741824");
        BENCH.fails("-200 0 translate 0 -2147483648 2 -2147483648 box", 5, 7, "0 -2147483648 2 -2147483648");
    }

    private static void orderOfErrors() {
        BENCH.fails("lineto", 1, 0, "");
        BENCH.fails("1 { } lineto", 3, 3, "1 p1");
        BENCH.fails("1 999 lineto", 6, 2, "1 999");
        BENCH.fails("1 1 rmoveto", 6, 2, "1 1");
        BENCH.fails("1 1 rlineto", 6, 2, "1 1");
        BENCH.fails("1 1 1 1 1 999 curveto", 6, 6, "1 1 1 1 1 999");
        BENCH.fails("close", 6, 0, "");
        BENCH.fails("point", 6, 0, "");
        BENCH.fails("1 1 moveto fill close", 6, 4, "");
        BENCH.fails("1 1 moveto newpath point", 6, 4, "");
        String full = "0 0 moveto 47 { 1 0 rlineto } repeat ";
        BENCH.fails(full + "0 201 moveto", 7, 12, "0 201");
        BENCH.fails(full + "0 201 lineto", 7, 12, "0 201");
        BENCH.fails(full + "0 201 rlineto", 7, 12, "0 201");
        BENCH.fails(full + "0 201 rmoveto", 7, 12, "0 201");
        BENCH.fails(full + "0 201 0 0 0 0 curveto", 7, 16, "0 201 0 0 0 0");
        BENCH.fails("{ } 5 scale exit", 10, 3, "p0 5");
    }
}
