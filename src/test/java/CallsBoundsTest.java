/** The boundaries of promises 1, 2, 3, 9, 10 and 13: a method for each sentence. */
public final class CallsBoundsTest {
    private static final Due due = new Due();

    public static void main(String[] args) {
        aNewObjectHasAnEmptyText();
        aNewObjectHasNoProgram();
        aNewObjectHasNoActsBarred();
        aByteComesBehind();
        refusedWhenNot1To127();
        refusedWhenThereAre4000();
        theTextIsEmptyThen();
        emptyAlsoWhenItIsWrong();
        howManyStatements();
        minusThePlaceFrom0();
        theProgramThatWasThereStays();
        anActIsBarredFromNowOn();
        falseForAnotherAct();
        remarkKFrom0();
        kindAndWhatItIsOf();
        byKindsThenNumbers();
        eachProgramHasItsOwnRemarks();
        aStepThatIsNeverDone();
        aStatementBehindAStop();
        anActThatIsBarred();
        anOutputThatNoneHas();
        aSignalThatStandsNowhere();
        remarksNone();
        asAtFirst();
        due.end();
    }

    private static void aNewObjectHasAnEmptyText() {
        due.by("StepText()`: An empty text");
        due.same("read of a new object", new StepText().read(), 0);
        StepText x = new StepText();
        x.unit(';');
        due.same("its first byte has place 0", x.read(), -1);
        // one object knows nothing of another
        Due.tell(x, "hold;");
        due.same("read of another one", new StepText().read(), 0);
    }

    private static void aNewObjectHasNoProgram() {
        due.by("StepText()`: .. no program");
        StepText x = new StepText();
        due.same("what", x.what(0), -1);
        due.same("child", x.child(-1, 0), -1);
        due.same("line", x.line(0), -1);
        due.same("number, part 0", x.number(0, 0), -1);
        due.same("number, part 1", x.number(0, 1), -1);
        due.same("unitOf", x.unitOf(0), -1);
        due.same("check", x.check(0, 0), -1);
        due.same("check, what it is of", x.check(0, 1), -1);
        due.same("branch", x.branch(0, 0), -1);
        due.same("write", x.write(0), -1);
    }

    private static void aNewObjectHasNoActsBarred() {
        due.by("StepText()`: .. no acts are barred");
        StepText x = new StepText();
        Due.read(x, "act 0; act 1; act 31; act 32; act 62; act 63;");
        due.same("remarks", Due.remarks(x), "");
        for (int act = 0; act < 64; act++) {
            due.same("bar(" + act + ") is new", new StepText().bar(act), true);
        }
    }

    private static void aByteComesBehind() {
        due.by("A byte comes behind the text: true");
        StepText x = new StepText();
        for (char c : "hold;".toCharArray()) {
            due.same("unit(" + c + ")", x.unit(c), true);
        }
        due.same("in their order", x.read(), 1);
        due.same("what", x.what(0), 21);
        // any byte from 1 on comes into the text, also one that begins no word
        x.unit(127);
        due.same("127 is in the text", x.read(), -1);
        x.unit(1);
        due.same("1 is in the text", x.read(), -1);
    }

    private static void refusedWhenNot1To127() {
        due.by("False, refused, when it is not 1 .. 127");
        StepText x = new StepText();
        for (int u : new int[] {0, -1, 128, 129, 255, 256, 256 + ';', -128, Integer.MIN_VALUE, Integer.MAX_VALUE}) {
            due.same("unit(" + u + ")", x.unit(u), false);
        }
        due.same("nothing came into the text", x.read(), 0);
        Due.tell(x, "ho");
        due.same("unit(0) within a word", x.unit(0), false);
        due.same("unit(128) within a word", x.unit(128), false);
        Due.tell(x, "ld;");
        due.same("the word is whole", x.read(), 1);
    }

    private static void refusedWhenThereAre4000() {
        due.by("False, refused, when .. there are 4,000");
        StepText x = new StepText();
        for (int i = 0; i < 4000; i++) {
            due.same("unit " + i, x.unit(i < 3996 ? ' ' : "stop".charAt(i - 3996)), true);
        }
        due.same("unit 4,000", x.unit(';'), false);
        due.same("unit 4,000 again", x.unit(' '), false);
        due.same("none was changed by them", x.read(), -4001);
        for (int i = 0; i < 4000; i++) {
            due.same("unit " + i + " of the next", x.unit(i < 5 ? "stop;".charAt(i) : '\n'), true);
        }
        due.same("unit 4,000 of the next", x.unit('\n'), false);
        due.same("the next", x.read(), 1);
    }

    private static void theTextIsEmptyThen() {
        due.by("The text is read, and is empty then");
        StepText x = new StepText();
        due.same("first", Due.read(x, "hold;"), 1);
        due.same("nothing", x.read(), 0);
        due.same("the program of nothing", x.what(0), -1);
        due.same("second", Due.read(x, "stop; act 1;"), 2);
        due.same("not the first", x.what(0), 20);
        Due.read(x, "signal a; ask a;");
        due.same("places from 0 again", Due.read(x, "a;"), -1);
    }

    private static void emptyAlsoWhenItIsWrong() {
        due.by("is empty then (also when it is wrong)");
        StepText x = new StepText();
        due.same("wrong at its end", Due.read(x, "hold"), -5);
        due.same("a ; does not end it", Due.read(x, ";"), -1);
        due.same("wrong at its beginning", Due.read(x, "; hold; hold;"), -1);
        due.same("nothing", x.read(), 0);
        due.same("wrong in a word", Due.read(x, "5x hold;"), -2);
        due.same("right", Due.read(x, "hold;"), 1);
        Due.tell(x, " ".repeat(3999) + "@");
        due.same("wrong when full", x.read(), -4000);
        due.same("and then a byte comes", x.unit(' '), true);
    }

    private static void howManyStatements() {
        due.by("how many statements the program has (those in blocks, too)");
        due.right("", 0);
        due.right("signal a; output b; step e { }", 0);
        due.right("hold;", 1);
        due.right("step e { hold; }", 1);
        due.right("repeat 1 { }", 1);
        due.right("repeat 1 { hold; repeat 2 { stop; } }", 4);
        due.right("if 1 < 2 { hold; } else { hold; }", 3);
        due.right("limit 1 < 2 { hold; } then { hold; }", 3);
        due.right("par { hold; } { hold; } { hold; }", 4);
        due.right("signal a; output q; step e { } set q a; wait 1 s; until 1 < 2; ramp q 1 in 1 s; par { } { }"
                + " if 1 < 2 { } repeat 1 { } limit 1 < 2 { } then { } ask a; do e; stop; hold; act 1;", 13);
        due.right("hold;".repeat(800), 800);
    }

    private static void minusThePlaceFrom0() {
        due.by("-1 minus the place of the first wrong byte, from 0");
        due.same("place 0", Due.read(new StepText(), ";"), -1);
        due.same("place 1", Due.read(new StepText(), " ;"), -2);
        due.same("place 2, a 10 is a byte", Due.read(new StepText(), "\n\n;"), -3);
        due.same("place 4, the end", Due.read(new StepText(), "hold"), -5);
        due.same("place 3,999", Due.read(new StepText(), " ".repeat(3999) + ";"), -4000);
        due.same("place 4,000, the end", Due.read(new StepText(), " ".repeat(3996) + "hold"), -4001);
    }

    private static void theProgramThatWasThereStays() {
        due.by("the program that was there stays");
        StepText x = new StepText();
        due.same("wrong, with none there", Due.read(x, "hold; ;"), -7);
        due.same("none there", x.what(0), -1);
        due.same("nothing to write", x.write(0), -1);
        String text = "signal a ;\noutput q l ;\nstep e {\nstop ;\nhold ;\n}\nwait 1 s + 2 s ;\nact 9 ;\n";
        Due.read(x, text);
        x.bar(9);
        String trees = Due.trees(x);
        String remarks = Due.remarks(x);
        due.same("remarks", remarks, "1 2, 2 1, 3 8, 4 1, 5 0, ");
        String[] wrongs = {";", "hold; signal b;", "output z; step a { act 1; } set z 1; do a; stop; repeat 5 { hold; } x",
            "repeat 1" + "+1".repeat(500) + "{}", "5x", "signal a; signal a;"};
        for (String wrong : wrongs) {
            due.same("wrong: " + wrong, Due.read(x, wrong) < 0, true);
            due.same("trees stay after " + wrong, Due.trees(x), trees);
            due.same("remarks stay after " + wrong, Due.remarks(x), remarks);
            due.same("line stays after " + wrong, x.line(7), 7);
            due.same("unit stays after " + wrong, x.unitOf(4), 3);
            due.same("value stays after " + wrong, x.number(5, 0), 2000);
            due.same("branch stays after " + wrong, x.branch(3, 0), 2);
            due.same("text stays after " + wrong, Due.written(x), text);
        }
    }

    private static void anActIsBarredFromNowOn() {
        due.by("An act (0 .. 63) is barred from now on: whether that is new");
        StepText x = new StepText();
        for (int act = 0; act <= 63; act++) {
            due.same("bar(" + act + ")", x.bar(act), true);
        }
        for (int act = 63; act >= 0; act--) {
            due.same("bar(" + act + ") again", x.bar(act), false);
        }
        StepText early = new StepText();
        early.bar(63);
        due.same("before the program", Due.read(early, "act 63; act 62;"), 2);
        due.same("barred", Due.remarks(early), "3 0, ");
        early.bar(62);
        due.same("behind the program", Due.remarks(early), "3 0, 3 1, ");
        Due.read(early, "hold; act 62 act");
        Due.read(early, "hold; act 62;");
        due.same("in the next program", Due.remarks(early), "3 1, ");
        due.same("still no news", early.bar(63), false);
    }

    private static void falseForAnotherAct() {
        due.by("False for another one");
        StepText x = Due.program("act 0; act 1; act 31; act 32; act 62; act 63;");
        for (int act : new int[] {-1, -2, -63, -64, 64, 65, 127, 128, 256, Integer.MIN_VALUE, Integer.MAX_VALUE}) {
            due.same("bar(" + act + ")", x.bar(act), false);
        }
        due.same("none is barred", Due.remarks(x), "");
        due.same("bar(0) is still new", x.bar(0), true);
        due.same("bar(63) is still new", x.bar(63), true);
        due.same("these two", Due.remarks(x), "3 0, 3 5, ");
    }

    private static void remarkKFrom0() {
        due.by("Remark k, from 0");
        StepText x = Due.program("signal a; signal b; signal d;");
        for (int k = 0; k < 3; k++) {
            due.same("kind " + k, x.check(k, 0), 5);
            due.same("of " + k, x.check(k, 1), k);
        }
        due.same("remark 3", x.check(3, 0), -1);
        StepText many = Due.program("stop;" + "hold;".repeat(799));
        due.same("remark 798", many.check(798, 1), 799);
        due.same("remark 799", many.check(799, 1), -1);
    }

    private static void kindAndWhatItIsOf() {
        due.by("its kind (what = 0), what it is of (1)");
        StepText x = Due.program("signal a; ask a; stop; hold;");
        due.same("check(0, 0)", x.check(0, 0), 2);
        due.same("check(0, 1)", x.check(0, 1), 2);
        for (int what : new int[] {Integer.MIN_VALUE, -1, 2, 3, Integer.MAX_VALUE}) {
            due.same("check(0, " + what + ")", x.check(0, what), -1);
        }
    }

    private static void byKindsThenNumbers() {
        due.by("By kinds, then numbers");
        StepText x = Due.program("signal a; output b; step d { stop; act 1; } signal e; output f; step g { act 1; stop; hold; }"
                + " act 1; stop; act 1; act 2;");
        x.bar(1);
        // a 0, b 1, d 2, e 3, f 4, g 5; stop 0, act 1; act 4, stop 5, hold 6; act 9, stop 10, act 11, act 12
        due.same("all", Due.remarks(x),
                "1 2, 1 5, 2 1, 2 6, 2 11, 2 12, 3 1, 3 4, 3 9, 3 11, 4 1, 4 4, 5 0, 5 3, ");
    }

    private static void eachProgramHasItsOwnRemarks() {
        due.by("Remark k, from 0 .. NONE.");
        StepText x = new StepText();
        for (int i = 0; i < 3; i++) {
            Due.read(x, "signal a; output b; step d { } ask a; set b 1; do d;");
            due.same("nothing to remark", Due.remarks(x), "");
            Due.read(x, "signal a; output b; step d { } stop; hold;");
            due.same("of the program that is there", Due.remarks(x), "1 2, 2 3, 4 1, 5 0, ");
            Due.read(x, "signal a; output b; step d { } hold; hold;");
            due.same("and not of the one before", Due.remarks(x), "1 2, 4 1, 5 0, ");
        }
    }

    private static void remarks(String text, String want) {
        due.same("remarks of " + text, Due.remarks(Due.program(text)), want);
    }

    private static void aStepThatIsNeverDone() {
        due.by("1 a step that is never done (by statements outside of steps, or steps that are done), its NAME");
        remarks("step a { }", "1 0, ");
        remarks("step a { } do a;", "");
        remarks("step a { } do a; do a;", "");
        remarks("step a { } repeat 1 { do a; }", "");
        remarks("step a { } if 1 < 2 { } else { par { } { limit 1 < 2 { } then { do a; } } }", "");
        // a step that is never done does none
        remarks("step a { } step b { do a; }", "1 0, 1 1, ");
        remarks("step a { } step b { do a; } do b;", "");
        remarks("step a { } step b { do a; } step d { do b; }", "1 0, 1 1, 1 2, ");
        remarks("step a { } step b { do a; } step d { do b; } do d;", "");
        remarks("step a { } step b { do a; } step d { do b; } do a;", "1 1, 1 2, ");
        remarks("step a { } step b { do a; } step d { do a; } do d;", "1 1, ");
        remarks("step a { } step b { repeat 1 { do a; } } do b;", "");
        // its NAME's number, not how many steps stand before it
        remarks("signal s1; output q; step a { } ask s1; set q 1;", "1 2, ");
        StringBuilder chain = new StringBuilder("step x0 { }");
        for (int i = 1; i < 100; i++) {
            chain.append("step x" + i + " { do x" + (i - 1) + "; }");
        }
        remarks(chain + "do x99;", "");
        remarks(chain + "do x98;", "1 99, ");
    }

    private static void aStatementBehindAStop() {
        due.by("2 a statement that stands behind a stop in its block, or outside of blocks, its node");
        remarks("stop;", "");
        remarks("hold; stop;", "");
        remarks("stop; hold;", "2 1, ");
        remarks("stop; hold; hold;", "2 1, 2 2, ");
        remarks("stop; stop;", "2 1, ");
        remarks("stop; repeat 1 { hold; }", "2 4, ");
        remarks("repeat 1 { stop; } hold;", "");
        remarks("repeat 1 { stop; hold; }", "2 2, ");
        remarks("repeat 1 { hold; stop; }", "");
        remarks("if 1 < 2 { stop; } else { hold; }", "");
        remarks("par { stop; } { hold; stop; hold; }", "2 4, ");
        remarks("step a { stop; } step b { hold; } do a; do b;", "");
        remarks("step a { stop; hold; } do a;", "2 1, ");
        remarks("step a { stop; } do a; hold;", "");
        // a hold or an act is no stop
        remarks("hold; act 1; hold;", "");
    }

    private static void anActThatIsBarred() {
        due.by("3 an act that is barred, its node");
        for (int act = 0; act < 64; act++) {
            StepText x = Due.program("act " + act + "; repeat " + (act + 1) % 64 + " { act " + (act + 1) % 64 + "; }");
            x.bar(act);
            due.same("barred: " + act, Due.remarks(x), "3 0, ");
            x.bar((act + 1) % 64);
            due.same("barred: the next, too", Due.remarks(x), "3 0, 3 2, ");
        }
        // a NAME's number and a value are no acts
        StepText other = Due.program("signal a; step b { } ask a; do b; wait 0.001 s; act 2;");
        other.bar(0);
        other.bar(1);
        due.same("no act", Due.remarks(other), "");
    }

    private static void anOutputThatNoneHas() {
        due.by("4 an output that no set or ramp has, its NAME");
        remarks("output q;", "4 0, ");
        remarks("output q; set q 1;", "");
        remarks("output q; ramp q 1 in 1 s;", "");
        remarks("output q; repeat q { }", "4 0, ");
        remarks("output q; output r; set r q;", "4 0, ");
        remarks("output q; output r; ramp r q in 1 s;", "4 0, ");
        // also where it is never done
        remarks("output q; step a { set q 1; }", "1 1, ");
        remarks("output q; stop; set q 1;", "2 2, ");
    }

    private static void aSignalThatStandsNowhere() {
        due.by("5 a signal that stands in no sum and no ask, its NAME");
        remarks("signal a;", "5 0, ");
        remarks("signal a; ask a;", "");
        remarks("signal a; repeat a { }", "");
        remarks("signal a; until 1 < (- (a));", "");
        remarks("output q; signal a; set q a;", "");
        remarks("output q; signal a; set q 1;", "5 1, ");
        remarks("signal a; signal b; ask b;", "5 0, ");
        remarks("signal a; step b { ask a; }", "1 1, ");
    }

    private static void remarksNone() {
        due.by("Remark k .. NONE.");
        StepText x = Due.program("signal a; stop; hold;");
        for (int what = 0; what <= 1; what++) {
            due.same("check(1, " + what + ")", x.check(1, what), what == 0 ? 5 : 0);
            for (int k : new int[] {Integer.MIN_VALUE, -2, -1, 2, 3, Integer.MAX_VALUE}) {
                due.same("check(" + k + ", " + what + ")", x.check(k, what), -1);
            }
            due.same("nothing to remark", Due.program("hold;").check(0, what), -1);
            due.same("new: check(0, " + what + ")", new StepText().check(0, what), -1);
        }
    }

    private static void asAtFirst() {
        due.by("clear()`: As at first");
        StepText x = Due.program("signal a; stop; act 5;");
        x.bar(0);
        x.bar(5);
        x.bar(63);
        due.same("written", x.write(0), 's');
        Due.tell(x, "hold; ");
        x.clear();
        due.same("nothing is written any more", x.write(0), -1);
        due.same("the text is empty", x.read(), 0);
        Due.read(x, "signal a; stop; act 5;");
        x.clear();
        due.same("what", x.what(0), -1);
        due.same("child", x.child(-1, 0), -1);
        due.same("line", x.line(0), -1);
        due.same("number", x.number(0, 1), -1);
        due.same("unitOf", x.unitOf(0), -1);
        due.same("branch", x.branch(0, 0), -1);
        due.same("write", x.write(0), -1);
        due.same("check", x.check(0, 0), -1);
        due.same("a wrong text", Due.read(x, "signal a; a"), -11);
        due.same("still no program", x.what(0), -1);
        due.same("no NAMES", Due.read(x, "ask a;"), -5);
        due.same("a text", Due.read(x, "act 0; act 5; act 63;"), 3);
        due.same("no acts are barred", Due.remarks(x), "");
        due.same("bar(5) is new", x.bar(5), true);

        StepText full = new StepText();
        Due.tell(full, " ".repeat(4000));
        full.clear();
        due.same("unit behind clear of a full text", full.unit('x'), true);
        due.same("place 0", full.read(), -1);
        StepText fresh = new StepText();
        fresh.clear();
        due.same("a new object, cleared", fresh.read(), 0);
        due.same("and used", Due.read(fresh, "hold;"), 1);
    }
}
