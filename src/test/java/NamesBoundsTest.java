/** The boundaries that the document names under NAMES: a method for each sentence. */
public final class NamesBoundsTest {
    private static final Due due = new Due();
    private static final String[] SORTS = {"signal # ; ", "output # ; ", "step # { } "};

    public static void main(String[] args) {
        numberedTogetherFrom0();
        atMost100();
        eachIsToldOnce();
        knownBehindItsDeclaration();
        inASum();
        setAndRampHaveAnOutput();
        askHasASignal();
        doHasAStep();
        actsAre0To63();
        actsAreWithoutAPoint();
        due.end();
    }

    private static String told(int sort, String name) {
        return SORTS[sort].replace("#", name);
    }

    private static String manyTold(int count) {
        StringBuilder text = new StringBuilder();
        for (int i = 0; i < count; i++) {
            text.append(told(i % 3, "x" + i));
        }
        return text.toString();
    }

    private static void numberedTogetherFrom0() {
        due.by("NAMES are signals, outputs and steps, numbered together from 0 in the order in which they are told");
        StepText x = Due.program("output q; step e { } signal n; output r; step f { } signal m;"
                + "set q 1; do e; ask n; ramp r n in 1 s; do f; ask m; repeat r { }");
        // 0, 1: block, step; 2, 3: block, step; 4: 1, 5: set, 6: do, 7: ask, 8: n, 9: 1 s, 10: ramp, 11: do, 12: ask, 13: r
        int[] nodes = {1, 3, 5, 6, 7, 8, 10, 11, 12, 13};
        int[] names = {1, 4, 0, 1, 2, 2, 3, 4, 5, 3};
        for (int i = 0; i < nodes.length; i++) {
            due.same("the NAME of " + nodes[i], x.number(nodes[i], 0), names[i]);
        }
        Due.read(x, "signal m; ask m;");
        due.same("each program numbers anew", x.number(0, 0), 0);
    }

    private static void atMost100() {
        due.by("NAMES are .. at most 100 .. a NAME that .. would be the 101st");
        String full = manyTold(100);
        due.right(full, 0);
        due.right(full + "do x98; set x97 1; ask x96;", 3);
        StepText x = Due.program(full + "do x98; ask x99;");
        // 33 steps of two nodes each
        due.same("NAME 98", x.number(66, 0), 98);
        due.same("NAME 99", x.number(67, 0), 99);
        due.wrong(full + "signal !y;");
        due.wrong(full + "output !y l;");
        due.wrong(full + "step !y { }");
        due.wrong(full + "signal !x0;");
        due.wrong(full + "signal y!.;");
        due.right(manyTold(99) + "step y { }", 0);
        due.right(manyTold(99) + "output y; set y 1;", 1);
        due.wrong(manyTold(99) + "output y; signal !z;");
        due.same("100 again", Due.read(x, full), 0);
    }

    private static void eachIsToldOnce() {
        due.by("NAMES are .. each is told once .. a NAME that is .. told twice");
        for (int first = 0; first < SORTS.length; first++) {
            for (int second = 0; second < SORTS.length; second++) {
                due.wrong(told(first, "a") + told(second, "!a"));
                due.wrong(told(first, "a") + told(0, "b") + told(second, "!a"));
                due.right(told(first, "a") + told(second, "aa"), 0);
            }
        }
        due.wrong("signal a l; signal !a l;");
        // what a wrong text or an earlier one has told is told no more
        StepText x = new StepText();
        due.same("wrong", Due.read(x, "signal a; signal b; ;"), -21);
        due.same("told first", Due.read(x, "signal a; ask a;"), 1);
        due.same("told in another text", Due.read(x, "output a; set a 1;"), 1);
    }

    private static void knownBehindItsDeclaration() {
        due.by("NAMES are .. known behind its declaration");
        due.wrong("step e { ask !a; } signal a;");
        due.wrong("step e { set !a 1; } output a;");
        due.wrong("step e { repeat !a { } } signal a;");
        due.wrong("step e { do !f; } step f { }");
        due.wrong("step e { do !e; }");
        due.wrong("step e { repeat 1 { do !e; } } do e;");
        due.right("signal a; step e { ask a; }", 1);
        due.right("step e { } step f { do e; } do f;", 2);
        due.wrong("ask !a;");
        due.wrong("set !a 1;");
        due.wrong("do !a;");
        due.wrong("repeat !a { }");
        // its own letters alone are not the NAME
        due.wrong("signal abc; ask !ab;");
        due.wrong("signal abc; ask !abcd;");
        StepText x = Due.program("signal a; ask a;");
        due.same("not known in the next text", Due.read(x, "ask a;"), -5);
    }

    private static void inASum() {
        due.by("In a sum a NAME is a signal or an output");
        due.right("signal a; repeat a { }", 1);
        due.right("output a; repeat a { }", 1);
        due.wrong("step a { } repeat !a { }");
        due.wrong("step a { } wait 1 s + !a;");
        due.wrong("step a { } until 1 < (- !a);");
        due.wrong("repeat !a { }");
    }

    private static void setAndRampHaveAnOutput() {
        due.by("set and ramp have an output");
        due.right("output a; set a 1; ramp a 1 in 1 s;", 2);
        due.wrong("signal a; set !a 1;");
        due.wrong("step a { } set !a 1;");
        due.wrong("set !a 1;");
        due.wrong("signal a; ramp !a 1 in 1 s;");
        due.wrong("step a { } ramp !a 1 in 1 s;");
        due.wrong("ramp !a 1 in 1 s;");
    }

    private static void askHasASignal() {
        due.by("ask a signal");
        due.right("signal a; ask a;", 1);
        due.right("signal a part; ask a;", 1);
        due.wrong("output a; ask !a;");
        due.wrong("step a { } ask !a;");
        due.wrong("ask !a;");
    }

    private static void doHasAStep() {
        due.by("do a step");
        due.right("step a { } do a;", 1);
        due.wrong("signal a; do !a;");
        due.wrong("output a; do !a;");
        due.wrong("do !a;");
    }

    private static void actsAre0To63() {
        due.by("A NUMBER of act is 0 .. 63");
        for (int act = 0; act < 200; act++) {
            if (act <= 63) {
                due.same("act " + act, Due.program("act " + act + ";").number(0, 0), act);
            } else {
                due.wrong("act !" + act + ";");
            }
        }
        due.right("act 000000063;", 1);
        due.wrong("act !000000064;");
        due.wrong("act !63000;");
        due.wrong("act !999999999;");
        // 4,294,967 and 4,294,968 thousand lie on both sides of what 32 bits hold
        due.wrong("act !4294967;");
        due.wrong("act !4294968;");
        due.wrong("act !-1;");
    }

    private static void actsAreWithoutAPoint() {
        due.by("A NUMBER of act is .. without a point");
        due.wrong("act !0.0;");
        due.wrong("act !63.0;");
        due.wrong("act !5.000;");
        due.wrong("act !5.5;");
        due.wrong("act !0.063;");
        due.wrong("act 5!.;");
    }
}
