/** Promises 9 and 10: acts that are barred, and the remarks. */
public final class RemarksTest {
    private static final Due due = new Due();

    public static void main(String[] args) {
        barsActs();
        remarksSteps();
        remarksWhatStandsBehindStop();
        remarksActs();
        remarksOutputsAndSignals();
        ordersRemarks();
        due.end();
    }

    private static void remarks(String text, String want) {
        due.same("remarks of " + text, Due.remarks(Due.program(text)), want);
    }

    private static void barsActs() {
        StepText x = new StepText();
        for (int act = 0; act < 64; act++) {
            due.same("bar " + act, x.bar(act), true);
        }
        for (int act = 0; act < 64; act++) {
            due.same("bar again " + act, x.bar(act), false);
        }
        for (int act : new int[] {-1, 64, 65, 128, Integer.MIN_VALUE, Integer.MAX_VALUE}) {
            due.same("bar " + act, new StepText().bar(act), false);
        }
        StepText other = Due.program("act 0; act 1; act 63;");
        other.bar(64);
        other.bar(-1);
        due.same("no such act is barred", Due.remarks(other), "");
    }

    private static void remarksSteps() {
        remarks("step a { }", "1 0, ");
        remarks("step a { } do a;", "");
        remarks("step a { } step b { do a; }", "1 0, 1 1, ");
        remarks("step a { } step b { do a; } do b;", "");
        remarks("step a { } step b { do a; } step e { do a; } do e;", "1 1, ");
        remarks("step a { } step b { do a; } step e { do b; } step d { do e; }", "1 0, 1 1, 1 2, 1 3, ");
        remarks("step a { } step b { do a; } step e { do b; } do e;", "");
        remarks("step a { } repeat 1 { par { } { if 1 < 2 { do a; } } }", "");
        remarks("step a { } step b { repeat 1 { do a; } } do b;", "");
        remarks("signal b; step a { } ask b;", "1 1, ");
    }

    private static void remarksWhatStandsBehindStop() {
        remarks("stop;", "");
        remarks("stop; hold;", "2 1, ");
        remarks("hold; stop;", "");
        remarks("stop; stop; hold;", "2 1, 2 2, ");
        remarks("repeat 1 { stop; hold; } hold;", "2 2, ");
        remarks("repeat 1 { stop; } hold;", "");
        // repeat is behind the stop, but hold is the first in its own block
        remarks("stop; repeat 1 { hold; }", "2 4, ");
        remarks("stop; wait 1 s + 2 s;", "2 4, ");
        remarks("par { stop; } { hold; }", "");
        remarks("step a { stop; hold; } do a; hold;", "2 1, ");
        remarks("step a { stop; } hold; do a;", "");
        remarks("step a { } stop; do a;", "2 3, ");
    }

    private static void remarksActs() {
        StepText x = Due.program("act 5; repeat 1 { act 6; act 5; }");
        due.same("none is barred", Due.remarks(x), "");
        x.bar(5);
        due.same("5 is barred", Due.remarks(x), "3 0, 3 3, ");
        x.bar(6);
        due.same("5 and 6 are barred", Due.remarks(x), "3 0, 3 2, 3 3, ");
        Due.read(x, "act 7; act 6;");
        due.same("bars stay over read", Due.remarks(x), "3 1, ");
        x.clear();
        Due.read(x, "act 6;");
        due.same("bars go with clear", Due.remarks(x), "");
        StepText edges = Due.program("act 0; act 63; act 32; act 31;");
        edges.bar(63);
        due.same("63 is barred", Due.remarks(edges), "3 1, ");
        edges.bar(31);
        edges.bar(0);
        due.same("0, 31 and 63 are barred", Due.remarks(edges), "3 0, 3 1, 3 3, ");
    }

    private static void remarksOutputsAndSignals() {
        remarks("output a;", "4 0, ");
        remarks("output a; set a 1;", "");
        remarks("output a; ramp a 1 in 1 s;", "");
        remarks("output a; repeat a { }", "4 0, ");
        remarks("output a; output b; set a b;", "4 1, ");
        remarks("output a; step e { set a 1; }", "1 1, ");
        remarks("signal a;", "5 0, ");
        remarks("signal a; ask a;", "");
        remarks("signal a; repeat a { }", "");
        remarks("signal a; until 1 < 2 * (3 - - a);", "");
        remarks("signal a; signal b; ask b;", "5 0, ");
    }

    private static void ordersRemarks() {
        StepText x = Due.program("signal a; output b; step x { act 1; } signal d; output e; step f { stop; act 1; }"
                + "act 1; stop; hold;");
        x.bar(1);
        due.same("all kinds", Due.remarks(x),
                "1 2, 1 5, 2 4, 2 9, 3 0, 3 4, 3 7, 4 1, 4 4, 5 0, 5 3, ");
        due.same("remark -1", x.check(-1, 0), -1);
        due.same("remark behind", x.check(11, 0), -1);
        due.same("remark behind, of", x.check(11, 1), -1);
        due.same("what 2", x.check(0, 2), -1);
        due.same("what -1", x.check(0, -1), -1);
        due.same("far", x.check(Integer.MAX_VALUE, 0), -1);
        due.same("far below", x.check(Integer.MIN_VALUE, 1), -1);
        Due.read(x, "hold; hold");
        due.same("a wrong text changes none", x.check(10, 1), 3);
        Due.read(x, "hold;");
        due.same("a new program has its own", x.check(0, 0), -1);
        for (int i = 0; i < 4; i++) {
            Due.read(x, "signal a; output b; step e { } ask a; set b 1; do e;");
            due.same("all are used", Due.remarks(x), "");
            Due.read(x, "signal a; output b; step e { }");
            Due.read(x, "signal a; output b; step e { }");
            due.same("and not by an earlier program", Due.remarks(x), "1 2, 4 1, 5 0, ");
        }
    }
}
