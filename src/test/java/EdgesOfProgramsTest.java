/** The boundary cases that the document names under "Terms" for programs, values, procedures and operators 0 to 20. */
public final class EdgesOfProgramsTest {
    private static final Bench BENCH = new Bench();
    private static final String FULL = "1 ".repeat(24).trim();

    public static void main(String[] args) {
        programs();
        values();
        procedures();
        arithmetic();
        comparing();
        moving();
        branches();
        repeats();
        forLoops();
        loops();
        exits();
        BENCH.end();
    }

    private static void programs() {
        BENCH.sentence("A PROGRAM is a row of at most 100 tokens");
        StackRaster x = new StackRaster();
        Bench.load(x, "1 pop ".repeat(50));
        BENCH.due("token 101", x.token(0, 1), false);
        BENCH.due("run of 100 tokens", x.run(), 0);
        BENCH.due("steps of 100 tokens", x.steps(), 100);
        Bench.load(x, "1 pop ".repeat(49) + "{ }");
        BENCH.due("run of 100 tokens with a '}' last", x.run(), 0);
        BENCH.due("its stack", Bench.stack(x), "p98");
        Bench.load(x, "1 pop ".repeat(49) + "1 div");
        BENCH.due("run with an error at the last of 100", x.run(), 1);
        BENCH.due("its place", x.place(), 99);

        BENCH.sentence("0 a number (any int)");
        BENCH.leaves("-2147483648 -2147483647 -1 0 1 2147483646 2147483647",
                "-2147483648 -2147483647 -1 0 1 2147483646 2147483647");

        BENCH.sentence("1 an operator (0 to 44, below)");
        for (int value : new int[] {-1, 45, 256, Integer.MIN_VALUE, Integer.MAX_VALUE}) {
            BENCH.due("operator " + value, new StackRaster().token(1, value), false);
        }
        for (int value = 0; value <= 44; value++) {
            BENCH.due("operator " + value, new StackRaster().token(1, value), true);
        }

        BENCH.sentence("4 puts the value of variable 0..7 on the stack; 5 takes the topmost value off into variable 0..7");
        for (int value : new int[] {-1, 8, Integer.MIN_VALUE, Integer.MAX_VALUE}) {
            BENCH.due("put variable " + value, new StackRaster().token(4, value), false);
            BENCH.due("take into variable " + value, new StackRaster().token(5, value), false);
        }
        BENCH.leaves("10 !0 11 !1 12 !2 13 !3 14 !4 15 !5 16 !6 17 !7 @0 @1 @2 @3 @4 @5 @6 @7", "10 11 12 13 14 15 16 17");
        BENCH.leaves("1 2 !7 @7 @0", "1 2 0");
        BENCH.leaves("1*24 !0", "1 ".repeat(23).trim());
        BENCH.leaves("1*23 @0", "1 ".repeat(23) + "0");
        BENCH.refuses("1*24", "@0", 2);
        BENCH.refuses("", "!0", 1);
    }

    private static void values() {
        BENCH.sentence("numbers (ints that wrap)");
        BENCH.leaves("2147483647 1 add -2147483648 -1 add", "-2147483648 2147483647");
        BENCH.leaves("-2147483648 1 sub 2147483647 -1 sub 0 -2147483648 sub", "2147483647 -2147483648 -2147483648");
        BENCH.leaves("2147483647 2147483647 mul -2147483648 -1 mul 65536 65536 mul", "1 -2147483648 0");
        BENCH.leaves("-2147483648 neg", "-2147483648");
        BENCH.leaves("-2147483648 -1 div -2147483648 -1 mod", "-2147483648 0");

        BENCH.sentence("The stack holds at most 24");
        BENCH.leaves("1*24", FULL);
        BENCH.leaves("1*22 2 { } pop dup", "1 ".repeat(22) + "2 2");
        BENCH.leaves("1*23 { }", "1 ".repeat(23) + "p23");
        BENCH.leaves("1*23 count", "1 ".repeat(23) + "23");
        BENCH.leaves("7 8 moveto 1*22 point", "1 ".repeat(22) + "7 8");
        for (String token : new String[] {"5", "dup", "count", "@7"}) {
            BENCH.refuses("1*24", token, 2);
        }
        BENCH.fails("1*24 { }", 2, 24, FULL);
        BENCH.refuses("7 8 moveto 1*23", "point", 2);
        BENCH.refuses("7 8 moveto 1*24", "point", 2);
        // These take as many values off as they put on, or more.
        BENCH.leaves("1*24 exch", FULL);
        BENCH.leaves("1*24 eq", "1 ".repeat(22) + "1");
        BENCH.leaves("1*24 neg", "1 ".repeat(23) + "-1");
        BENCH.leaves("1*24 index", FULL);
        BENCH.leaves("1*24 dot", "1 ".repeat(22) + "0");
        BENCH.leaves("1*20 6 1 6 { } for", "1 ".repeat(20) + "6");
        BENCH.leaves("1*23 { } exec", "1 ".repeat(23).trim());
    }

    private static void procedures() {
        BENCH.sentence("a '{' that is executed puts it on the stack and goes on behind its '}'");
        BENCH.leaves("{ { 1 } { 2 { } } 3 } 4", "p0 4");
        BENCH.due("steps", Bench.ran("{ { 1 } { 2 { } } 3 } 4").steps(), 2);
        BENCH.leaves("{ }", "p0");
        BENCH.leaves("{ } { }", "p0 p2");
        BENCH.leaves("{ { } { } } exec", "p1 p3");
        BENCH.leaves("{ ".repeat(50) + "} ".repeat(50), "p0");

        BENCH.sentence("It BEGINS with its first token; when its '}' is executed, a loop goes on or is over, other ones end");
        BENCH.leaves("{ } exec", "");
        BENCH.due("steps of an empty procedure", Bench.ran("{ } exec").steps(), 3);
        BENCH.due("steps of an empty loop", Bench.ran("2 { } repeat").steps(), 5);
        BENCH.leaves("{ 5 } exec", "5");

        BENCH.sentence("what is over goes on behind the operator that began it");
        BENCH.leaves("{ 1 } !0 @0 exec 2 @0 exec 3 2 @0 repeat 4", "1 2 1 3 1 1 4");
        BENCH.leaves("{ { 1 } exec 2 } exec", "1 2");
        BENCH.leaves("0 { 9 } if 3 0 { 9 } repeat 4 1 1 0 { 9 } for 5 { exit } loop 6", "3 4 5 6");

        BENCH.sentence("behind the last one the run is over");
        BENCH.due("run of no token", new StackRaster().run(), 0);
        BENCH.due("steps of no token", Bench.ran("").steps(), 0);
        BENCH.due("steps of one token", Bench.ran("7").steps(), 1);
        BENCH.due("steps up to the '}' of the last", Bench.ran("{ 5 } exec").steps(), 4);
    }

    private static void arithmetic() {
        BENCH.sentence("3 div x y -- x/y towards zero   4 mod x y -- the rest of that");
        BENCH.leaves("1 2 div -1 2 div 1 -2 div -1 -2 div", "0 0 0 0");
        BENCH.leaves("1 2 mod -1 2 mod 1 -2 mod -1 -2 mod", "1 -1 1 -1");
        BENCH.leaves("3 2 div -3 2 div 3 -2 div -3 -2 div", "1 -1 -1 1");
        BENCH.leaves("0 -5 div 0 -5 mod", "0 0");
        BENCH.leaves("-2147483648 2147483647 div -2147483648 2147483647 mod", "-1 -1");
        BENCH.leaves("2147483647 -2147483648 div 2147483647 -2147483648 mod", "0 2147483647");
        for (String divided : new String[] {"5", "0", "-1", "-2147483648"}) {
            BENCH.refuses(divided + " 0", "div", 4);
            BENCH.refuses(divided + " 0", "mod", 4);
        }
    }

    private static void comparing() {
        BENCH.sentence("6 lt x y -- 1 if x < y, else 0");
        BENCH.leaves("-1 0 lt 0 0 lt 1 0 lt", "1 0 0");
        BENCH.leaves("-2147483648 2147483647 lt 2147483647 -2147483648 lt", "1 0");
        BENCH.leaves("-2147483648 1 lt 2147483647 -1 lt -2147483648 -2147483648 lt", "1 0 0");

        BENCH.sentence("7 eq v w -- 1 if they are the same number or the same procedure, else 0");
        BENCH.leaves("-2147483648 -2147483648 eq -2147483648 2147483647 eq 0 65536 eq", "1 0 0");
        BENCH.leaves("{ } 0 eq 0 { } eq", "0 0");
        BENCH.leaves("1 { } eq", "0");
        BENCH.leaves("{ 1 } !0 @0 @0 eq", "1");
        BENCH.leaves("{ 1 } { 1 } eq", "0");
        // The one procedure, put on by two executions of its '{'.
        BENCH.leaves("2 { { 1 } } repeat eq", "1");
    }

    private static void moving() {
        BENCH.sentence("11 index n -- a copy of the value that lies n below the topmost of those under n (0: the topmost itself)");
        BENCH.leaves("7 0 index", "7 7");
        BENCH.leaves("7 8 9 0 index", "7 8 9 9");
        BENCH.leaves("7 8 9 1 index", "7 8 9 8");
        BENCH.leaves("7 8 9 2 index", "7 8 9 7");
        BENCH.leaves("5 1*22 22 index", "5 " + "1 ".repeat(22) + "5");
        BENCH.leaves("{ } 0 index", "p0 p0");

        BENCH.sentence("index: not 0 to the number of values under n less 1");
        BENCH.refuses("0", "index", 10);
        BENCH.refuses("7 1", "index", 10);
        BENCH.refuses("7 8 9 3", "index", 10);
        BENCH.refuses("7 8 9 -1", "index", 10);
        BENCH.refuses("5 1*22 23", "index", 10);
        BENCH.refuses("7 8 2147483647", "index", 10);
        BENCH.refuses("7 8 -2147483648", "index", 10);

        BENCH.sentence("12 count -- how many values lie there   13 clear: takes all off");
        BENCH.leaves("count", "0");
        BENCH.leaves("1*24 pop count", "1 ".repeat(23) + "23");
        BENCH.leaves("clear", "");
        BENCH.leaves("1*24 clear", "");
        BENCH.leaves("1*24 clear 2*24", "2 ".repeat(24).trim());
    }

    private static void branches() {
        BENCH.sentence("15 if n p --, begins p if n is not 0");
        BENCH.leaves("0 { 5 } if", "");
        BENCH.leaves("1 { 5 } if -1 { 6 } if -2147483648 { 7 } if 2147483647 { 8 } if", "5 6 7 8");

        BENCH.sentence("16 ifelse n p q --, begins p if n is not 0, else q");
        BENCH.leaves("0 { 5 } { 6 } ifelse", "6");
        BENCH.leaves("1 { 5 } { 6 } ifelse -1 { 5 } { 6 } ifelse -2147483648 { 5 } { 6 } ifelse", "5 5 5");
        BENCH.leaves("0 { 5 } { } ifelse", "");
    }

    private static void repeats() {
        BENCH.sentence("17 repeat n p --, begins p n times (not at all if n is below 1)");
        BENCH.leaves("1 { 5 } repeat 9", "5 9");
        BENCH.leaves("2 { 5 } repeat 9", "5 5 9");
        for (String n : new String[] {"0", "-1", "-2147483648"}) {
            BENCH.leaves(n + " { 5 } repeat 9", "9");
            BENCH.due("steps of " + n + " times", Bench.ran(n + " { 5 } repeat 9").steps(), 4);
        }
        BENCH.leaves("24 { 1 } repeat", FULL);
        BENCH.fails("25 { 1 } repeat", 2, 2, FULL);
        BENCH.fails("2147483647 { } repeat", 11, 2, "");
        BENCH.leaves("0 2147483647 { 1 add dup 60 eq { exit } if } repeat", "60");
    }

    private static void forLoops() {
        BENCH.sentence("as long as this is not above y (s above 0) or not below y (s below 0)");
        BENCH.leaves("3 1 3 { } for", "3");
        BENCH.leaves("3 1 2 { } for", "");
        BENCH.leaves("3 -1 3 { } for", "3");
        BENCH.leaves("3 -1 4 { } for", "");
        BENCH.leaves("1 3 7 { } for", "1 4 7");
        BENCH.leaves("1 3 6 { } for", "1 4");
        BENCH.leaves("7 -3 1 { } for", "7 4 1");
        BENCH.leaves("7 -3 2 { } for", "7 4");
        BENCH.leaves("-2147483648 1 -2147483648 { } for", "-2147483648");
        BENCH.leaves("2147483647 -1 -2147483648 { exit } for", "2147483647");
        BENCH.due("steps of none", Bench.ran("3 1 2 { } for").steps(), 5);

        BENCH.sentence("and no sum leaves the ints");
        BENCH.leaves("2147483647 1 2147483647 { } for", "2147483647");
        BENCH.leaves("2147483646 1 2147483647 { } for", "2147483646 2147483647");
        BENCH.leaves("2147483646 2 2147483647 { } for", "2147483646");
        BENCH.leaves("-2147483648 -1 -2147483648 { } for", "-2147483648");
        BENCH.leaves("-2147483647 -1 -2147483648 { } for", "-2147483647 -2147483648");
        BENCH.leaves("-2147483647 -2 -2147483648 { } for", "-2147483647");
        BENCH.leaves("1 2147483647 2147483647 { } for", "1");
        BENCH.leaves("0 2147483647 2147483647 { } for", "0 2147483647");
        BENCH.leaves("0 -2147483648 -2147483648 { } for", "0 -2147483648");
        BENCH.leaves("-1 -2147483648 -2147483648 { } for", "-1");

        BENCH.sentence("with that number put on before each time");
        BENCH.leaves("5 5 15 { 1 } for", "5 1 10 1 15 1");
        BENCH.leaves("1 1 3 { pop } for", "");
        // The number is the loop's own: what is done to the one on the stack does not matter.
        BENCH.leaves("1 1 3 { 100 add } for", "101 102 103");
    }

    private static void loops() {
        BENCH.sentence("19 loop p --, begins p again and again");
        BENCH.leaves("{ exit } loop 5", "5");
        BENCH.fails("{ } loop", 11, 1, "");
        BENCH.fails("{ 1 } loop", 2, 1, FULL);
    }

    private static void exits() {
        BENCH.sentence("20 exit: the innermost repeat, for or loop in progress is over, with all procedures begun since");
        BENCH.leaves("{ 3 { 1 exit 2 } repeat 4 exit } loop 5", "1 4 5");
        BENCH.leaves("2 { 1 1 3 { exit } for 4 } repeat 5", "1 4 1 4 5");
        BENCH.leaves("1 1 2 { { exit } loop 4 } for 5", "1 4 2 4 5");
        BENCH.leaves("{ { 1 { 0 { } { exit 6 } ifelse 7 } if 8 } exec 9 } loop 5", "5");

        BENCH.sentence("8 exit outside of repeat, for and loop");
        BENCH.refuses("", "exit", 8);
        BENCH.refuses("1*24", "exit", 8);
        BENCH.refuses("2 { } repeat", "exit", 8);
        BENCH.refuses("1 1 2 { pop } for", "exit", 8);
        BENCH.refuses("{ exit } loop", "exit", 8);
        BENCH.fails("{ exit } exec", 8, 1, "");
        BENCH.fails("1 { exit } if", 8, 2, "");
        BENCH.fails("0 { } { exit } ifelse", 8, 4, "");
        BENCH.refuses("0 { exit } repeat", "exit", 8);
    }
}
