/** Promises 4 to 8 and 11: what the nodes of a program are. */
public final class NodesTest {
    private static final Due due = new Due();

    public static void main(String[] args) {
        numbersNodes();
        tellsChildren();
        tellsBranches();
        tellsLines();
        tellsNumbers();
        tellsUnits();
        due.end();
    }

    private static void trees(String text, String want) {
        due.same("nodes of " + text, Due.trees(Due.program(text)), want);
    }

    private static void numbersNodes() {
        trees("", "");
        trees("wait 1 s;", "1:11(0:0)");
        trees("wait 1 s + 2 s;", "3:11(2:2(0:0 1:0))");
        trees("wait 1 s - 2 s * 3 / 4;", "7:11(6:3(0:0 5:5(3:4(1:0 2:0) 4:0)))");
        trees("wait (1 s + 2 s) * ((3));", "5:11(4:4(2:2(0:0 1:0) 3:0))");
        trees("wait - - 1 s;", "3:11(2:6(1:6(0:0)))");
        trees("wait - 1 s * 2;", "4:11(3:4(1:6(0:0) 2:0))");
        trees("signal a; until a < 1; until 1 = a; until 2 > 1;",
                "3:12(2:7(0:1 1:0)) 7:12(6:8(4:0 5:1)) 11:12(10:9(8:0 9:0))");
        trees("output q; set q 1; ramp q 2 in 3 s;", "1:10(0:0) 4:13(2:0 3:0)");
        trees("par { hold; } { } { stop; act 1; }", "6:14(1:23(0:21) 2:23 5:23(3:20 4:22))");
        trees("if 1 < 2 { }", "4:15(2:7(0:0 1:0) 3:23)");
        trees("if 1 < 2 { } else { hold; }", "6:15(2:7(0:0 1:0) 3:23 5:23(4:21))");
        trees("repeat 5 { hold; }", "3:16(0:0 2:23(1:21))");
        trees("limit 1 < 2 { hold; } then { stop; }", "7:17(2:7(0:0 1:0) 4:23(3:21) 6:23(5:20))");
        trees("signal b; step a { hold; } ask b; do a; act 3;", "2:24(1:23(0:21)) 3:18 4:19 5:22");
    }

    private static void tellsChildren() {
        StepText x = Due.program("step a { } step b { hold; stop; } do a; wait 1 s + 2 s;");
        due.same("outside 0", x.child(-1, 0), 1);
        due.same("outside 1", x.child(-1, 1), 5);
        due.same("outside 2", x.child(-1, 2), 6);
        due.same("outside 3", x.child(-1, 3), 10);
        due.same("outside 4", x.child(-1, 4), -1);
        due.same("outside -1", x.child(-1, -1), -1);
        due.same("block 0", x.child(4, 0), 2);
        due.same("block 1", x.child(4, 1), 3);
        due.same("block 2", x.child(4, 2), -1);
        due.same("empty block", x.child(0, 0), -1);
        due.same("leaf", x.child(7, 0), -1);
        due.same("k below", x.child(9, -1), -1);
        for (int n : new int[] {-2, 11, Integer.MAX_VALUE, Integer.MIN_VALUE}) {
            due.same("what " + n, x.what(n), -1);
            due.same("child of " + n, x.child(n, 0), -1);
            due.same("line of " + n, x.line(n), -1);
            due.same("number of " + n, x.number(n, 0), -1);
            due.same("children of " + n, x.number(n, 1), -1);
            due.same("unit of " + n, x.unitOf(n), -1);
            due.same("branch of " + n, x.branch(n, 0), -1);
        }
        due.same("what of NONE", x.what(-1), -1);
        due.same("line of NONE", x.line(-1), -1);
        due.same("number of NONE", x.number(-1, 1), -1);
        due.same("unit of NONE", x.unitOf(-1), -1);
        due.same("branch of NONE", x.branch(-1, 0), -1);
        due.same("child at the limits", x.child(9, Integer.MAX_VALUE), -1);
    }

    private static void branches(String text, int n, int... blocks) {
        StepText x = Due.program(text);
        for (int k = 0; k < blocks.length; k++) {
            due.same("branch " + k + " of " + n + " in " + text, x.branch(n, k), blocks[k]);
        }
        due.same("branch behind in " + text, x.branch(n, blocks.length), -1);
        due.same("branch before in " + text, x.branch(n, -1), -1);
    }

    private static void tellsBranches() {
        branches("par { hold; } { } { stop; act 1; }", 6, 1, 2, 5);
        branches("if 1 < 2 { }", 4, 3);
        branches("if 1 < 2 { } else { hold; }", 6, 3, 5);
        branches("repeat 5 { hold; }", 3, 2);
        branches("limit 1 < 2 { hold; } then { stop; }", 7, 4, 6);
        branches("step a { hold; }", 2, 1);
        branches("step a { hold; }", 1);
        branches("repeat 5 { hold; }", 0);
        branches("repeat 5 { hold; }", 1);
        branches("repeat 5 { repeat 6 { } }", 3, 2);
        branches("repeat 5 { repeat 6 { } }", 4);
        branches("until 1 < 2;", 3);
    }

    private static void tellsLines() {
        StepText x = Due.program("\nsignal a\n; step\nb\n{ hold\n; } wait (\n1 s +\n2 s) *\n- 3;\nuntil (\na) <\n1;");
        // hold, block, step; 1 s, 2 s, +, 3, -, *, wait; a, 1, <, until
        int[] lines = {5, 5, 3, 7, 8, 7, 9, 9, 7, 6, 11, 12, 11, 10};
        for (int n = 0; n < lines.length; n++) {
            due.same("line of " + n, x.line(n), lines[n]);
        }
        due.same("line behind", x.line(lines.length), -1);
        StepText number = Due.program("wait -\n5\ns\n;");
        due.same("line of a number", number.line(0), 2);
        due.same("line of a -", number.line(1), 1);
        due.same("line of wait", number.line(2), 1);
    }

    private static void tellsNumbers() {
        StepText x = Due.program("signal a; output b s; step e { } signal d;"
                + "set b 1.5 min; ramp b 2 h in b; ask d; do e; act 63; hold; until d < 0.01; repeat 007.10 { }");
        // block, step; 1.5 min, set; 2 h, b, ramp; ask; do; act; hold; d, 0.01, <, until; 7.1, block, repeat
        long[] values = {0, 2, 90_000, 1, 7_200_000, 1, 1, 3, 2, 63, 0, 3, 10, 0, 0, 7_100, 0, 0};
        int[] sizes = {0, 1, 0, 1, 0, 0, 2, 0, 0, 0, 0, 0, 0, 2, 1, 0, 0, 2};
        for (int n = 0; n < values.length; n++) {
            due.same("number " + n, x.number(n, 0), values[n]);
            due.same("size " + n, x.number(n, 1), sizes[n]);
            due.same("part 2 of " + n, x.number(n, 2), -1);
            due.same("part -1 of " + n, x.number(n, -1), -1);
        }
        StepText great = Due.program("wait 999999999.999 s; wait 277777.777 h; wait 0 s;");
        due.same("the greatest", great.number(0, 0), 999_999_999_999L);
        due.same("a great one in h", great.number(2, 0), 277_777_777L * 3600);
        due.same("nothing", great.number(4, 0), 0);
        due.same("of wait", great.number(1, 0), 0);
        StepText others = Due.program("wait - 1 s + 1 s; stop; par { } { }");
        for (int n : new int[] {1, 3, 4, 5, 6, 8}) {
            due.same("of others " + n, others.number(n, 0), 0);
        }
    }

    private static void units(String sum, int... wanted) {
        StepText x = Due.program("signal n; signal a l; signal b c; signal c1 s; output d bar; output e part;"
                + " until " + sum + " < " + sum + ";");
        for (int n = 0; n < wanted.length; n++) {
            due.same("unit of " + n + " in " + sum, x.unitOf(n), wanted[n]);
        }
        due.same("unit of the test of " + sum, x.unitOf(2 * wanted.length), -1);
        due.same("unit of until of " + sum, x.unitOf(2 * wanted.length + 1), -1);
    }

    private static void tellsUnits() {
        units("n", 0);
        units("a", 1);
        units("b", 2);
        units("c1", 3);
        units("d", 4);
        units("e", 5);
        units("1", 0);
        units("1 l", 1);
        units("1 c", 2);
        units("1 s", 3);
        units("1 bar", 4);
        units("1 part", 5);
        units("1 min", 3);
        units("1 h", 3);
        units("- d", 4, 4);
        units("a + 1 l", 1, 1, 1);
        units("b - 1 c", 2, 2, 2);
        units("n * e", 0, 5, 5);
        units("e * n", 5, 0, 5);
        units("n * 1", 0, 0, 0);
        units("a / n", 1, 0, 1);
        units("a / 2 l", 1, 1, 0);
        units("n / 2", 0, 0, 0);
        StepText x = Due.program("step a { } repeat 1 { hold; }");
        due.same("unit of a block", x.unitOf(0), -1);
        due.same("unit of a step", x.unitOf(1), -1);
        due.same("unit of a statement", x.unitOf(3), -1);
    }
}
