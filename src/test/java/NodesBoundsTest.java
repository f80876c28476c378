/** The boundaries of NODES and CHILDREN, and of promises 4 to 8 and 11: a method for each sentence. */
public final class NodesBoundsTest {
    private static final Due due = new Due();
    private static final int[] NO_NODES = {Integer.MIN_VALUE, Integer.MIN_VALUE + 1, -1001, -2, -1};

    // One program with a node of each kind; what each node is, in the order of their numbers.
    private static final String ALL = "signal n; output q; step e { stop; }\n"
            + "set q n + 1 - 2;\nwait - 1 s * 2 / 3;\nuntil 1 < 2;\nramp q 1 in 1 s;\npar { hold; } { act 7; }\n"
            + "if 1 = 2 { ask n; } else { do e; }\nrepeat 1 { }\nlimit 1 > 2 { } then { }";
    private static final int[] KINDS = {20, 23, 24, 1, 0, 2, 0, 3, 10, 0, 6, 0, 4, 0, 5, 11, 0, 0, 7, 12, 0, 0, 13,
        21, 23, 22, 23, 14, 0, 0, 8, 18, 23, 19, 23, 15, 0, 23, 16, 0, 0, 9, 23, 23, 17};

    public static void main(String[] args) {
        numbersFrom0();
        whatLiesInANodeBeforeIt();
        whatTheyAre();
        childrenAreInTheOrderOfTheText();
        bracketsMakeNoNode();
        whatNoneWhenThereIsNone();
        childKFrom0();
        childOfNone();
        childNone();
        lineOfTheFirstWord();
        lineOfTheFirstChild();
        lineNone();
        numberPart0();
        numberPart1();
        numberNone();
        unitOfANodeOfASum();
        unitNoneOtherwise();
        branchKFrom0();
        branchNone();
        due.end();
    }

    private static void numbersFrom0() {
        due.by("NODES get numbers from 0 on as their last word is read");
        StepText x = Due.program("hold; stop;");
        due.same("node 0", x.what(0), 21);
        due.same("node 1", x.what(1), 20);
        due.same("nodes of a + b * c", Due.trees(Due.program("repeat 1 + 2 * 3 { }")), "6:16(4:2(0:0 3:4(1:0 2:0)) 5:23)");
        Due.read(x, "act 1;");
        due.same("each program from 0 on", x.what(0), 22);
        due.same("and of the old one none", x.what(1), -1);
    }

    private static void whatLiesInANodeBeforeIt() {
        due.by("what lies in a node before it");
        due.same("a -, a number", Due.trees(Due.program("wait - 1 s;")), "2:11(1:6(0:0))");
        due.same("an if", Due.trees(Due.program("if 1 < 2 { } else { }")), "5:15(2:7(0:0 1:0) 3:23 4:23)");
        due.same("a step", Due.trees(Due.program("step a { hold; }")), "2:24(1:23(0:21))");
        due.same("a deep one", Due.trees(Due.program("step a { repeat 1 { par { } { hold; } } }")),
                "8:24(7:23(6:16(0:0 5:23(4:14(1:23 3:23(2:21))))))");
    }

    private static void whatTheyAre() {
        due.by("what they are: 0 a number, 1 a NAME in a sum, 2 +, 3 -, 4 *, 5 /, 6 - of a factor, 7 <, 8 =, 9 >, 10 set,"
                + " 11 wait, 12 until, 13 ramp, 14 par, 15 if, 16 repeat, 17 limit, 18 ask, 19 do, 20 stop, 21 hold, 22 act,"
                + " 23 a block, 24 a step");
        StepText x = Due.program(ALL);
        for (int n = 0; n < KINDS.length; n++) {
            due.same("what(" + n + ")", x.what(n), KINDS[n]);
        }
        due.same("what behind", x.what(KINDS.length), -1);
    }

    private static void childrenAreInTheOrderOfTheText() {
        due.by("CHILDREN are in the order of the text; a block has its statements, a step its block");
        due.same("of all kinds", Due.trees(Due.program(ALL)), "2:24(1:23(0:20)) 8:10(7:3(5:2(3:1 4:0) 6:0))"
                + " 15:11(14:5(12:4(10:6(9:0) 11:0) 13:0)) 19:12(18:7(16:0 17:0)) 22:13(20:0 21:0)"
                + " 27:14(24:23(23:21) 26:23(25:22)) 35:15(30:8(28:0 29:0) 32:23(31:18) 34:23(33:19))"
                + " 38:16(36:0 37:23) 44:17(41:9(39:0 40:0) 42:23 43:23)");
    }

    private static void bracketsMakeNoNode() {
        due.by("( ) make no node");
        due.same("one pair", Due.trees(Due.program("wait (1 s);")), "1:11(0:0)");
        due.same("60 pairs", Due.trees(Due.program("wait " + "(".repeat(60) + "1 s" + ")".repeat(60) + ";")), "1:11(0:0)");
        due.same("a sum", Due.trees(Due.program("wait 2 * (1 s + 1 s);")), "5:11(4:4(0:0 3:2(1:0 2:0)))");
    }

    private static StepText longest() {
        return Due.program("repeat 1" + "+1".repeat(498) + "{}hold;");
    }

    private static void whatNoneWhenThereIsNone() {
        due.by("What a node is; NONE when there is none");
        for (int n : new int[] {Integer.MIN_VALUE, -1, 0, 1, 999, 1000, Integer.MAX_VALUE}) {
            due.same("new: what(" + n + ")", new StepText().what(n), -1);
        }
        StepText x = longest();
        for (int n : NO_NODES) {
            due.same("what(" + n + ")", x.what(n), -1);
        }
        due.same("what(0)", x.what(0), 0);
        due.same("what(998)", x.what(998), 16);
        due.same("what(999)", x.what(999), 21);
        due.same("what(1000)", x.what(1000), -1);
        due.same("what(1070)", x.what(1070), -1);
        due.same("what of the greatest", x.what(Integer.MAX_VALUE), -1);
    }

    private static void childKFrom0() {
        due.by("Child k, from 0, of a node");
        StepText x = Due.program("par { hold; stop; act 1; } { } { }");
        due.same("child(3, 0)", x.child(3, 0), 0);
        due.same("child(3, 1)", x.child(3, 1), 1);
        due.same("child(3, 2)", x.child(3, 2), 2);
        due.same("child(3, 3)", x.child(3, 3), -1);
        due.same("child(6, 0)", x.child(6, 0), 3);
        due.same("child(6, 1)", x.child(6, 1), 4);
        due.same("child(6, 2)", x.child(6, 2), 5);
        due.same("child(6, 3)", x.child(6, 3), -1);
        StepText wide = Due.program("par{" + "hold;".repeat(700) + "}{}");
        due.same("child 699", wide.child(700, 699), 699);
        due.same("child 700", wide.child(700, 700), -1);
    }

    private static void childOfNone() {
        due.by("of node NONE the steps and statements of the program outside of blocks, in their order");
        StepText x = Due.program("signal n; step a { hold; } output q; step b { } do a; repeat 1 { hold; }");
        int[] outside = {2, 4, 5, 9};
        for (int k = 0; k < outside.length; k++) {
            due.same("child(NONE, " + k + ")", x.child(StepText.NONE, k), outside[k]);
        }
        due.same("child(NONE, 4)", x.child(StepText.NONE, 4), -1);
        due.same("child(NONE, -1)", x.child(StepText.NONE, -1), -1);
        StepText wide = Due.program("hold;".repeat(800));
        due.same("child(NONE, 799)", wide.child(StepText.NONE, 799), 799);
        due.same("child(NONE, 800)", wide.child(StepText.NONE, 800), -1);
        due.same("of declarations none", Due.program("signal n; output q;").child(StepText.NONE, 0), -1);
        due.same("of nothing none", Due.program("").child(StepText.NONE, 0), -1);
    }

    private static void childNone() {
        due.by("Child k .. NONE.");
        StepText x = Due.program("signal n; wait 1 s + - 2 s; repeat n { }");
        for (int k : new int[] {Integer.MIN_VALUE, -1, 2, 3, 1000, Integer.MAX_VALUE}) {
            due.same("child(3, " + k + ")", x.child(3, k), -1);
            due.same("child(NONE, " + k + ")", x.child(-1, k), -1);
        }
        for (int n : new int[] {0, 1, 5, 6}) {
            due.same("a leaf's child(" + n + ", 0)", x.child(n, 0), -1);
            due.same("a leaf's child(" + n + ", -1)", x.child(n, -1), -1);
        }
        for (int n : new int[] {Integer.MIN_VALUE, -2, 8, 1000, Integer.MAX_VALUE}) {
            due.same("child(" + n + ", 0)", x.child(n, 0), -1);
        }
        due.same("a - has one", x.child(2, 1), -1);
        due.same("new: child(NONE, 0)", new StepText().child(-1, 0), -1);
        due.same("new: child(0, 0)", new StepText().child(0, 0), -1);
    }

    private static void lineOfTheFirstWord() {
        due.by("The line in which a node's first word stands");
        StepText x = Due.program("step\ne\n{\nhold\n;\n}\nwait\n-\n1\ns\n;\nrepeat\n5\n{\n}");
        // hold, block, step; 1 s, -, wait; 5, block, repeat
        int[] lines = {4, 3, 1, 9, 8, 7, 13, 14, 12};
        for (int n = 0; n < lines.length; n++) {
            due.same("line(" + n + ")", x.line(n), lines[n]);
        }
        due.same("line 4,000 - 4", Due.program("\n".repeat(3995) + "hold;").line(0), 3996);
        due.same("in one line", Due.program("hold; hold; hold;").line(2), 1);
    }

    private static void lineOfTheFirstChild() {
        due.by("(of 2 .. 5, 7 .. 9 the first word of its first child)");
        for (String sign : new String[] {"+", "-", "*", "/", "<", "=", ">"}) {
            String sum = "(\n(\n1\n)\n" + sign + "\n2\n)";
            boolean test = "<=>".contains(sign);
            StepText x = Due.program(test ? "until\n(\n1\n)\n" + sign + "\n2;" : "repeat\n" + sum + "{}");
            due.same("the line of 1 " + sign, x.line(0), test ? 3 : 4);
            due.same("the line of " + sign, x.line(2), test ? 3 : 4);
        }
        // the first child of a first child, and a - of a factor, which has a word of its own
        due.same("1 + 2 + 3", Due.program("repeat\n1\n+\n2\n+\n3{}").line(4), 2);
        due.same("(1 + 2) * 3", Due.program("repeat (\n1 + 2)\n* 3 {}").line(4), 2);
        due.same("- (1) + 2", Due.program("repeat\n(\n-\n(\n1\n)\n)\n+\n2{}").line(3), 3);
        due.same("1 + (2 + 3)", Due.program("repeat 1 + (\n\n2 + 3) {}").line(3), 3);
    }

    private static void lineNone() {
        due.by("The line .. NONE.");
        StepText x = longest();
        for (int n : NO_NODES) {
            due.same("line(" + n + ")", x.line(n), -1);
        }
        due.same("line(999)", x.line(999), 1);
        due.same("line(1000)", x.line(1000), -1);
        due.same("line of the greatest", x.line(Integer.MAX_VALUE), -1);
        due.same("new: line(0)", new StepText().line(0), -1);
    }

    private static void numberPart0() {
        due.by("part 0: a number's value; of 1, 10, 13, 18, 19, 24 the NAME's number; of 22 the act; 0 of others");
        StepText x = Due.program(ALL);
        long[] values = {0, 0, 2, 0, 1000, 0, 2000, 0, 1, 1000, 0, 2000, 0, 3000, 0, 0, 1000, 2000, 0, 0, 1000, 1000, 1,
            0, 0, 7, 0, 0, 1000, 2000, 0, 0, 0, 2, 0, 0, 1000, 0, 0, 1000, 2000, 0, 0, 0, 0};
        for (int n = 0; n < values.length; n++) {
            due.same("number(" + n + ", 0)", x.number(n, 0), values[n]);
        }
        due.same("the greatest", Due.program("wait 999999999.999 s;").number(0, 0), 999_999_999_999L);
        due.same("the least", Due.program("wait 0.000 s;").number(0, 0), 0);
    }

    private static void numberPart1() {
        due.by("Part 1: how many children it has");
        StepText x = Due.program(ALL);
        int[] sizes = {0, 1, 1, 0, 0, 2, 0, 2, 1, 0, 1, 0, 2, 0, 2, 1, 0, 0, 2, 1, 0, 0, 2,
            0, 1, 0, 1, 2, 0, 0, 2, 0, 1, 0, 1, 3, 0, 0, 2, 0, 0, 2, 0, 0, 3};
        for (int n = 0; n < sizes.length; n++) {
            due.same("number(" + n + ", 1)", x.number(n, 1), sizes[n]);
        }
        due.same("of a wide block", Due.program("repeat 1{" + "hold;".repeat(700) + "}").number(701, 1), 700);
        due.same("of a wide par", Due.program("par" + "{}".repeat(999)).number(999, 1), 999);
    }

    private static void numberNone() {
        due.by("NONE when there is no such node or part");
        StepText x = longest();
        for (int part : new int[] {Integer.MIN_VALUE, -1, 2, 3, Integer.MAX_VALUE}) {
            due.same("number(0, " + part + ")", x.number(0, part), -1);
        }
        for (int part = 0; part <= 1; part++) {
            for (int n : NO_NODES) {
                due.same("number(" + n + ", " + part + ")", x.number(n, part), -1);
            }
            due.same("number(999, " + part + ")", x.number(999, part), 0);
            due.same("number(1000, " + part + ")", x.number(1000, part), -1);
            due.same("of the greatest, part " + part, x.number(Integer.MAX_VALUE, part), -1);
            due.same("new: number(0, " + part + ")", new StepText().number(0, part), -1);
        }
    }

    private static void unitOfANodeOfASum() {
        due.by("The unit of a node of a sum (0 .. 6)");
        StepText x = Due.program("signal a l; wait 1 s * ((- a + 2 l - 3 l) / (4 l * 5));");
        // 1 s, a, -, 2 l, +, 3 l, -, 4 l, 5, *, /, *, wait
        int[] units = {3, 1, 1, 1, 1, 1, 1, 1, 0, 1, 0, 3, -1};
        for (int n = 0; n < units.length; n++) {
            due.same("unitOf(" + n + ")", x.unitOf(n), units[n]);
        }
    }

    private static void unitNoneOtherwise() {
        due.by("The unit of a node of a sum (0 .. 6); NONE otherwise");
        StepText x = Due.program(ALL);
        for (int n = 0; n < KINDS.length; n++) {
            due.same("has what(" + n + ") = " + KINDS[n] + " a unit", x.unitOf(n) >= 0, KINDS[n] <= 6);
            due.same("else NONE: " + n, x.unitOf(n) >= -1, true);
        }
        StepText full = longest();
        for (int n : NO_NODES) {
            due.same("unitOf(" + n + ")", full.unitOf(n), -1);
        }
        due.same("unitOf(996)", full.unitOf(996), 0);
        due.same("unitOf(997), a block", full.unitOf(997), -1);
        due.same("unitOf(1000)", full.unitOf(1000), -1);
        due.same("unitOf the greatest", full.unitOf(Integer.MAX_VALUE), -1);
        due.same("new: unitOf(0)", new StepText().unitOf(0), -1);
    }

    private static void branchKFrom0() {
        due.by("Block k, from 0, of a par, if, repeat, limit or step");
        branches("step e { hold; }", 2, 1);
        branches("par { } { }", 2, 0, 1);
        branches("par { } { hold; } { } { }", 5, 0, 2, 3, 4);
        branches("if 1 < 2 { }", 4, 3);
        branches("if 1 < 2 { } else { }", 5, 3, 4);
        branches("repeat 1 { }", 2, 1);
        branches("limit 1 < 2 { } then { hold; }", 6, 3, 5);
        StepText wide = Due.program("par" + "{}".repeat(999));
        due.same("block 998", wide.branch(999, 998), 998);
        due.same("block 999", wide.branch(999, 999), -1);
    }

    private static void branches(String text, int n, int... blocks) {
        StepText x = Due.program(text);
        for (int k = 0; k < blocks.length; k++) {
            due.same("branch(" + n + ", " + k + ") of " + text, x.branch(n, k), blocks[k]);
        }
        for (int k : new int[] {Integer.MIN_VALUE, -1, blocks.length, blocks.length + 1, Integer.MAX_VALUE}) {
            due.same("branch(" + n + ", " + k + ") of " + text, x.branch(n, k), -1);
        }
    }

    private static void branchNone() {
        due.by("Block k .. NONE.");
        StepText x = Due.program(ALL);
        for (int n = 0; n < KINDS.length; n++) {
            boolean branching = KINDS[n] >= 14 && KINDS[n] <= 17 || KINDS[n] == 24;
            due.same("has what(" + n + ") = " + KINDS[n] + " a block", x.branch(n, 0) >= 0, branching);
            due.same("before the first: " + n, x.branch(n, -1), -1);
            due.same("behind the last: " + n, x.branch(n, 2), -1);
        }
        for (int n : NO_NODES) {
            due.same("branch(" + n + ", 0)", x.branch(n, 0), -1);
        }
        due.same("branch behind the last node", x.branch(KINDS.length, 0), -1);
        due.same("branch of the greatest", x.branch(Integer.MAX_VALUE, 0), -1);
        due.same("new: branch(0, 0)", new StepText().branch(0, 0), -1);
    }
}
