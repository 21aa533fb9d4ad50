/** Promises 1 to 9: tokens, runs and what is on the stack after them. */
public final class ProgramTest {
    private static final Bench BENCH = new Bench();

    public static void main(String[] args) {
        newObject();
        tokensTaken();
        tokensRefused();
        dropping();
        runs();
        placesAndSteps();
        valuesAfterRun();
        BENCH.end();
    }

    private static void newObject() {
        StackRaster x = new StackRaster();
        BENCH.due("new place", x.place(), -1);
        BENCH.due("new steps", x.steps(), 0);
        BENCH.due("new depth", x.depth(), 0);
        BENCH.due("new kind", x.kind(0), -1);
        BENCH.due("new value", x.value(0), 0);
        BENCH.due("new count", x.count(0), 576);
        BENCH.due("new page", Bench.page(x), "");
        BENCH.due("new points", x.points(), 0);
        BENCH.due("new corner", x.corner(0, 0), -1000);
        for (int j = 0; j < 24; j++) {
            BENCH.due("new clip " + j, x.clip(j), 16777215);
        }
        BENCH.due("new drop", x.drop(), 0);
        BENCH.due("run of nothing", x.run(), StackRaster.OK);
        BENCH.due("steps of nothing", x.steps(), 0);
        BENCH.due("OK", StackRaster.OK, 0);
        BENCH.due("INCOMPLETE", StackRaster.INCOMPLETE, -1);
    }

    private static void tokensTaken() {
        StackRaster x = new StackRaster();
        int[][] taken = {{0, Integer.MIN_VALUE}, {0, Integer.MAX_VALUE}, {1, 0}, {1, 44}, {4, 0}, {4, 7}, {5, 0}, {5, 7},
            {2, -9}, {3, 77}, {2, Integer.MIN_VALUE}, {3, Integer.MAX_VALUE}};
        for (int[] token : taken) {
            BENCH.due("token " + token[0] + " " + token[1], x.token(token[0], token[1]), true);
        }
        BENCH.due("drop", x.drop(), taken.length);
    }

    private static void tokensRefused() {
        StackRaster x = new StackRaster();
        int[][] refused = {{-1, 0}, {6, 0}, {Integer.MIN_VALUE, 0}, {Integer.MAX_VALUE, 0}, {1, -1}, {1, 45}, {4, -1},
            {4, 8}, {5, -1}, {5, 8}, {3, 0}};
        for (int[] token : refused) {
            BENCH.due("token " + token[0] + " " + token[1], x.token(token[0], token[1]), false);
        }
        BENCH.due("drop", x.drop(), 0);
        x.token(2, 0);
        x.token(3, 0);
        BENCH.due("second '}'", x.token(3, 0), false);
        for (int k = 2; k < 100; k++) {
            BENCH.due("token number " + k, x.token(0, k), true);
        }
        BENCH.due("token 101", x.token(0, 1), false);
        BENCH.due("drop of 100", x.drop(), 100);
        for (int k = 0; k < 100; k++) {
            x.token(2, 0);
        }
        BENCH.due("a '}' as token 101", x.token(3, 0), false);
        BENCH.due("run with 100 open", x.run(), -1);
    }

    private static void dropping() {
        StackRaster x = new StackRaster();
        Bench.load(x, "5 { 7 }");
        x.run();
        BENCH.due("drop", x.drop(), 4);
        BENCH.due("values outlive a drop", Bench.stack(x), "5 p1");
        BENCH.due("second drop", x.drop(), 0);
        x.token(2, 0);
        BENCH.due("drop of an open brace", x.drop(), 1);
        BENCH.due("no '{' open after drop", x.token(3, 0), false);
        BENCH.due("run after drop", x.run(), 0);
        BENCH.due("stack", Bench.stack(x), "");
        for (int kind : new int[] {0, 0, 0, 2}) {
            x.token(kind, 0);
        }
        Bench.load(x, "{ 5 } 6");
        BENCH.due("run after a drop of braces", x.run(), 0);
        BENCH.due("stack after a drop of braces", Bench.stack(x), "p0 6");
    }

    private static void runs() {
        StackRaster x = new StackRaster();
        Bench.load(x, "1 0 div");
        BENCH.due("run", x.run(), 4);
        Bench.load(x, "9 {");
        BENCH.due("incomplete", x.run(), StackRaster.INCOMPLETE);
        BENCH.due("incomplete keeps the stack", Bench.stack(x), "1 0");
        BENCH.due("incomplete keeps place", x.place(), 2);
        BENCH.due("incomplete keeps steps", x.steps(), 3);
        x.token(3, 0);
        BENCH.due("complete", x.run(), 0);
        BENCH.due("complete place", x.place(), -1);
        BENCH.due("complete stack", Bench.stack(x), "9 p1");
        BENCH.due("again", x.run(), 0);
        BENCH.due("again, from no values", Bench.stack(x), "9 p1");
        Bench.load(x, "{ } !0 5 !1 { } !2 5 !3 { } !4 5 !5 { } !6 5 !7");
        x.run();
        Bench.load(x, "@0 @1 @2 @3 @4 @5 @6 @7");
        x.run();
        BENCH.due("variables begin as 0", Bench.stack(x), "0 0 0 0 0 0 0 0");
        Bench.load(x, "3 gray 5 width 2 scale turn 1 1 translate 1 1 moveto gsave clip");
        x.run();
        BENCH.due("clip taken away", x.clip(3), 0);
        Bench.load(x, "grestore 0 0 moveto 1 0 rlineto 4 4 6 6 box fill 2 2 dot 4 4 moveto 8 4 lineto stroke gsave*4");
        BENCH.due("a run begins anew", x.run(), 0);
        BENCH.due("clip is whole", x.clip(3), 16777215);
        BENCH.due("gray was 0", x.count(0), 576);
    }

    private static void placesAndSteps() {
        StackRaster x = Bench.ran("1 2 add { pop } exec");
        BENCH.due("steps", x.steps(), 7);
        BENCH.due("place", x.place(), -1);
        x = Bench.ran("1 2 add { pop pop } exec 5");
        BENCH.due("an error's token costs a step", x.steps(), 7);
        BENCH.due("place in a procedure", x.place(), 5);
        x = Bench.ran("{ } loop");
        BENCH.due("steps of loop", x.steps(), 600);
        BENCH.due("place of error 11", x.place(), 1);
        Bench.load(x, "{ 1 pop } loop");
        BENCH.due("error 11", x.run(), 11);
        BENCH.due("place of error 11 in a longer loop", x.place(), 2);
        Bench.load(x, "598 { } repeat");
        BENCH.due("601 steps are too many", x.run(), 11);
        BENCH.due("place", x.place(), 2);
        Bench.load(x, "597 { } repeat");
        BENCH.due("600 steps are enough", x.run(), 0);
        BENCH.due("steps", x.steps(), 600);
        Bench.load(x, "597 { } repeat 7");
        BENCH.due("a token behind 600 steps", x.run(), 11);
        BENCH.due("place", x.place(), 4);
        BENCH.due("steps", x.steps(), 600);
        BENCH.due("it isn't executed", x.depth(), 0);
        Bench.load(x, "597 { } repeat add");
        BENCH.due("error 11 instead of its own", x.run(), 11);
    }

    private static void valuesAfterRun() {
        StackRaster x = Bench.ran("{ } -7 { { } }");
        BENCH.due("depth", x.depth(), 3);
        int[][] due = {{-1, -1, 0}, {0, 1, 3}, {1, 0, -7}, {2, 1, 0}, {3, -1, 0}, {24, -1, 0},
            {Integer.MAX_VALUE, -1, 0}, {Integer.MIN_VALUE, -1, 0}};
        for (int[] row : due) {
            BENCH.due("kind " + row[0], x.kind(row[0]), row[1]);
            BENCH.due("value " + row[0], x.value(row[0]), row[2]);
        }
        x = Bench.ran("5*24");
        BENCH.due("full depth", x.depth(), 24);
        BENCH.due("kind 23", x.kind(23), 0);
        BENCH.due("kind 24", x.kind(24), -1);
    }
}
