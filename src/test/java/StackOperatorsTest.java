/** Promises 4 to 9 for the operators 0 to 20, variables and the errors in their order. */
public final class StackOperatorsTest {
    private static final Bench BENCH = new Bench();

    public static void main(String[] args) {
        arithmetic();
        comparing();
        moving();
        variables();
        branches();
        loops();
        forLoops();
        exits();
        nesting();
        tooFew();
        wrongKinds();
        tooMany();
        otherErrors();
        BENCH.end();
    }

    private static void arithmetic() {
        BENCH.leaves("2 3 add", "5");
        BENCH.leaves("2147483647 1 add", "-2147483648");
        BENCH.leaves("2 3 sub", "-1");
        BENCH.leaves("-2147483648 1 sub", "2147483647");
        BENCH.leaves("-7 6 mul", "-42");
        BENCH.leaves("65536 65537 mul", "65536");
        BENCH.leaves("7 2 div -7 2 div 7 -2 div -7 -2 div", "3 -3 -3 3");
        BENCH.leaves("7 2 mod -7 2 mod 7 -2 mod -7 -2 mod", "1 -1 1 -1");
        BENCH.leaves("-2147483648 -1 div -2147483648 -1 mod", "-2147483648 0");
        BENCH.leaves("5 neg -5 neg -2147483648 neg", "-5 5 -2147483648");
        BENCH.leaves("9 5 neg", "9 -5");
    }

    private static void comparing() {
        BENCH.leaves("1 2 lt 2 2 lt 3 2 lt", "1 0 0");
        BENCH.leaves("-2147483648 2147483647 lt", "1");
        BENCH.leaves("4 4 eq 4 5 eq", "1 0");
        BENCH.leaves("{ } dup eq", "1");
        BENCH.leaves("{ } { } eq", "0");
        BENCH.leaves("0 { } pop { } 4 eq", "0 0");
        BENCH.leaves("{ } 0 eq", "0");
        BENCH.leaves("0 { } eq", "0");
        BENCH.leaves("2 { { 1 } } repeat eq", "1");
    }

    private static void moving() {
        BENCH.leaves("1 2 pop", "1");
        BENCH.leaves("1 { } pop", "1");
        BENCH.leaves("7 dup", "7 7");
        BENCH.leaves("{ } dup", "p0 p0");
        BENCH.leaves("1 2 exch", "2 1");
        BENCH.leaves("1 { } exch", "p1 1");
        BENCH.leaves("{ } 1 exch", "1 p0");
        BENCH.leaves("5 { } { } exch", "5 p3 p1");
        BENCH.leaves("10 20 30 0 index", "10 20 30 30");
        BENCH.leaves("10 20 30 2 index", "10 20 30 10");
        BENCH.leaves("{ } 20 1 index", "p0 20 p0");
        BENCH.leaves("count count count", "0 1 2");
        BENCH.leaves("1 { } 3 clear", "");
        BENCH.leaves("clear 4", "4");
        BENCH.leaves("1*23 0 index", ("1 ".repeat(24)).trim());
    }

    private static void variables() {
        BENCH.leaves("@0 @7", "0 0");
        BENCH.leaves("5 !0 6 !7 @7 @0 @7", "6 5 6");
        BENCH.leaves("{ 3 } !2 @2 @2 exec", "p0 3");
        BENCH.leaves("1 !4 { } !4 2 !4 @4", "2");
    }

    private static void branches() {
        BENCH.leaves("{ 1 2 } exec 3", "1 2 3");
        BENCH.leaves("{ } exec 3", "3");
        BENCH.leaves("1 { 5 } if -1 { 6 } if 0 { 7 } if 8", "5 6 8");
        BENCH.leaves("1 { 5 } { 6 } ifelse 0 { 7 } { 8 } ifelse 9", "5 8 9");
        BENCH.leaves("{ { 4 } exec 5 } exec 6", "4 5 6");
        BENCH.leaves("{ { 4 } } exec exec 6", "4 6");
    }

    private static void loops() {
        BENCH.leaves("3 { 7 } repeat 8", "7 7 7 8");
        BENCH.leaves("1 { 7 } repeat", "7");
        BENCH.leaves("0 { 7 } repeat -1 { 7 } repeat -2147483648 { 7 } repeat 8", "8");
        BENCH.leaves("2 { 3 { 1 } repeat 2 } repeat", "1 1 1 2 1 1 1 2");
        BENCH.leaves("0 { 1 add dup 4 eq { exit } if } loop 9", "4 9");
    }

    private static void forLoops() {
        BENCH.leaves("1 1 4 { } for", "1 2 3 4");
        BENCH.leaves("1 2 6 { } for", "1 3 5");
        BENCH.leaves("1 2 5 { } for", "1 3 5");
        BENCH.leaves("5 -2 1 { } for", "5 3 1");
        BENCH.leaves("5 -2 2 { } for", "5 3");
        BENCH.leaves("3 1 3 { } for 3 -1 3 { } for", "3 3");
        BENCH.leaves("4 1 3 { 9 } for 3 -1 4 { 9 } for", "");
        BENCH.leaves("2147483645 1 2147483647 { } for", "2147483645 2147483646 2147483647");
        BENCH.leaves("2147483640 5 2147483647 { } for", "2147483640 2147483645");
        BENCH.leaves("-2147483646 -1 -2147483648 { } for", "-2147483646 -2147483647 -2147483648");
        BENCH.leaves("-2147483648 2147483647 2147483647 { } for", "-2147483648 -1 2147483646");
        BENCH.leaves("2147483647 -2147483648 -2147483648 { } for", "2147483647 -1");
        BENCH.leaves("1 1 3 { pop 7 } for", "7 7 7");
    }

    private static void exits() {
        BENCH.leaves("{ 1 exit 2 } loop 3", "1 3");
        BENCH.leaves("5 { 1 exit 2 } repeat 3", "1 3");
        BENCH.leaves("1 1 9 { dup 3 eq { exit } if } for", "1 2 3");
        BENCH.leaves("2 { { { exit } exec 4 } loop 5 } repeat", "5 5");
        BENCH.leaves("{ { { exit 1 } exec 2 } exec 3 } loop 4", "4");
        BENCH.leaves("{ 3 { exit } repeat 6 exit } loop 7", "6 7");
        BENCH.fails("exit", 8, 0, "");
        BENCH.fails("{ exit } exec", 8, 1, "");
        BENCH.fails("1 { } repeat exit", 8, 4, "");
        BENCH.fails("1 { exit } if", 8, 2, "");
        BENCH.fails("{ exit } loop exit", 8, 4, "");
    }

    /** The inner program with so many procedures in progress around it; its first token has that number. */
    private static String nested(int levels, String inner) {
        return "{ ".repeat(levels) + inner + " } exec".repeat(levels);
    }

    private static void nesting() {
        BENCH.leaves(nested(11, "5 { 6 } exec 7"), "5 6 7");
        BENCH.leaves(nested(11, "1 { 6 } if 0 { 7 } { 8 } ifelse"), "6 8");
        BENCH.leaves(nested(11, "{ 6 } exec { 7 } exec"), "6 7");
        BENCH.leaves(nested(11, "3 { 6 } repeat 1 1 3 { } for { exit } loop"), "6 6 6 1 2 3");
        BENCH.fails(nested(12, "{ 6 } exec"), 9, 15, "p12");
        BENCH.fails(nested(12, "1 { 6 } if"), 9, 16, "1 p13");
        BENCH.fails(nested(12, "0 { } { } ifelse"), 9, 17, "0 p13 p15");
        BENCH.fails(nested(12, "1 { } repeat"), 9, 15, "1 p13");
        BENCH.fails(nested(12, "1 1 1 { } for"), 9, 17, "1 1 1 p15");
        BENCH.fails(nested(12, "{ } loop"), 9, 14, "p12");
        BENCH.fails(nested(12, "1 0 1 { } for"), 12, 17, "1 0 1 p15");
        BENCH.leaves(nested(12, "0 { } if 0 { } repeat 2 1 1 { } for 4"), "4");
        BENCH.fails("{ @1 exec } !1 @1 exec", 9, 2, "p0");
        BENCH.fails("{ 1 @1 repeat } !1 @1 exec", 9, 3, "1 p0");
        // What exit ends does not count any more.
        BENCH.leaves("2 { " + nested(11, "exit") + " } repeat " + nested(12, "9"), "9");
    }

    private static void tooFew() {
        String[] none = {"neg", "pop", "dup", "index", "exec", "loop", "scale", "gray", "width", "!0"};
        for (String word : none) {
            BENCH.fails(word, 1, 0, "");
        }
        String[] one = {"add", "sub", "mul", "div", "mod", "lt", "eq", "exch", "if", "repeat", "translate", "moveto",
            "lineto", "rmoveto", "rlineto", "dot"};
        for (String word : one) {
            BENCH.fails("{ } " + word, 1, 2, "p0");
        }
        BENCH.fails("1 { } ifelse", 1, 3, "1 p1");
        BENCH.fails("1 2 { } for", 1, 4, "1 2 p2");
        BENCH.fails("1 2 3 box", 1, 3, "1 2 3");
        BENCH.fails("1 2 3 4 5 curveto", 1, 5, "1 2 3 4 5");
    }

    private static void wrongKinds() {
        String[] two = {"add", "sub", "mul", "div", "mod", "lt", "translate", "moveto", "lineto", "rmoveto", "rlineto",
            "dot"};
        for (String word : two) {
            BENCH.fails("1 { } " + word, 3, 3, "1 p1");
            BENCH.fails("{ } 1 " + word, 3, 3, "p0 1");
        }
        String[] one = {"neg", "index", "scale", "gray", "width"};
        for (String word : one) {
            BENCH.fails("5 { } " + word, 3, 3, "5 p1");
        }
        BENCH.fails("5 exec", 3, 1, "5");
        BENCH.fails("5 loop", 3, 1, "5");
        BENCH.fails("1 5 if", 3, 2, "1 5");
        BENCH.fails("{ } { } if", 3, 4, "p0 p2");
        BENCH.fails("1 5 repeat", 3, 2, "1 5");
        BENCH.fails("{ } { } repeat", 3, 4, "p0 p2");
        BENCH.fails("1 { } 2 ifelse", 3, 4, "1 p1 2");
        BENCH.fails("1 2 { } ifelse", 3, 4, "1 2 p2");
        BENCH.fails("{ } { } { } ifelse", 3, 6, "p0 p2 p4");
        BENCH.fails("{ } 1 2 { } for", 3, 6, "p0 1 2 p4");
        BENCH.fails("1 { } 2 { } for", 3, 6, "1 p1 2 p4");
        BENCH.fails("1 2 { } { } for", 3, 6, "1 2 p2 p4");
        BENCH.fails("1 0 2 3 for", 3, 4, "1 0 2 3");
        for (int at = 0; at < 4; at++) {
            BENCH.fails(withProcedure(4, at) + " box", 3, 5, withProcedureLeft(4, at));
        }
        for (int at = 0; at < 6; at++) {
            BENCH.fails(withProcedure(6, at) + " curveto", 3, 7, withProcedureLeft(6, at));
        }
    }

    private static String withProcedure(int values, int at) {
        StringBuilder text = new StringBuilder();
        for (int k = 0; k < values; k++) {
            text.append(k == at ? "{ } " : "1 ");
        }
        return text.toString().trim();
    }

    private static String withProcedureLeft(int values, int at) {
        StringBuilder text = new StringBuilder();
        for (int k = 0; k < values; k++) {
            text.append(k == at ? "p" + k + " " : "1 ");
        }
        return text.toString().trim();
    }

    private static void tooMany() {
        String full = "1 ".repeat(24).trim();
        String[] words = {"5", "@0", "dup", "count"};
        for (String word : words) {
            BENCH.fails("1*24 " + word, 2, 24, full);
        }
        BENCH.fails("1*24 { }", 2, 24, full);
        BENCH.fails("3 3 moveto 1*24 point", 2, 27, full);
        BENCH.fails("3 3 moveto 1*23 point", 2, 26, "1 ".repeat(23).trim());
        BENCH.leaves("3 4 moveto 1*22 point", "1 ".repeat(22) + "3 4");
        BENCH.fails("1*24 point", 6, 24, full);
        BENCH.leaves("1*24 dot", "1 ".repeat(22) + "0");
        BENCH.leaves("1*24 exch", full);
        BENCH.fails("1 1 30 { } for", 2, 4, "1 2 3 4 5 6 7 8 9 10 11 12 13 14 15 16 17 18 19 20 21 22 23 24");
        BENCH.leaves("1*20 1 1 4 { } for", "1 ".repeat(20) + "1 2 3 4");
        BENCH.fails("1*20 1 1 5 { } for", 2, 24, "1 ".repeat(20) + "1 2 3 4");
    }

    private static void otherErrors() {
        BENCH.fails("5 0 div", 4, 2, "5 0");
        BENCH.fails("5 0 mod", 4, 2, "5 0");
        BENCH.fails("7 8 2 index", 10, 3, "7 8 2");
        BENCH.fails("7 8 -1 index", 10, 3, "7 8 -1");
        BENCH.fails("0 index", 10, 1, "0");
        BENCH.fails("7 2147483647 index", 10, 2, "7 2147483647");
        BENCH.fails("7 -2147483648 index", 10, 2, "7 -2147483648");
        BENCH.fails("1 0 1 { } for", 12, 5, "1 0 1 p3");
        BENCH.fails("1 0 0 { } for", 12, 5, "1 0 0 p3");
    }
}
