/** Promise 3: how many statements there are, and where a text is wrong. */
public final class ReadTest {
    private static final Due due = new Due();

    public static void main(String[] args) {
        countsStatements();
        keepsTheProgram();
        readsWords();
        readsByTheGrammar();
        readsNames();
        readsActs();
        readsTimes();
        readsUnits();
        looksAtOperatorsLate();
        countsWhatIsOpen();
        countsNames();
        countsNodes();
        due.end();
    }

    private static void countsStatements() {
        due.right("", 0);
        due.right(" \n ", 0);
        due.right("signal a; output b l; step d { }", 0);
        due.right("hold;", 1);
        due.right("step d { hold; stop; } do d;", 3);
        due.right("par { hold; } { } { act 1; act 2; }", 4);
        due.right("if 1 < 2 { repeat 3 { hold; } } else { limit 1 = 1 { } then { stop; } }", 5);
        due.right("output q; signal a; set q 1; wait 1 s; until 1 > 2; ramp q 1 in 1 s; ask a;", 5);
    }

    private static void keepsTheProgram() {
        StepText x = Due.program("signal a; ask a;");
        due.same("wrong", Due.read(x, "hold; hold"), -11);
        due.same("the program stays", Due.written(x), "signal a ;\nask a ;\n");
        due.same("the text is empty", x.read(), 0);
        due.same("a program of nothing", Due.written(x), "");
        due.same("names are told anew", Due.read(x, "signal a; ask a;"), 1);
        due.same("and again", Due.read(x, "step a { } do a;"), 1);
    }

    private static void readsWords() {
        due.wrong("1!abc");
        due.wrong("5!.");
        due.wrong("5!.x");
        due.wrong("wait 5!. s;");
        due.wrong("wait 1.234!5 s;");
        due.wrong("wait 1.2!.3 s;");
        due.wrong("wait 123456789!0 s;");
        due.wrong("wait 1!s;");
        due.wrong("abcdefghijkl!m");
        due.wrong("abcdefghijkl!1");
        due.wrong("hold!.");
        due.wrong("signal abcdefghijkl!m;");
        due.right("signal abcdefghijkl; ask abcdefghijkl;", 1);
        due.right("signal a1b2; ask a1b2;", 1);
        due.right("wait 123456789.123 s;", 1);
        due.right("hold;stop;act 1;", 3);
        due.right("\n\nhold\n;\n", 1);
        due.wrong("!@");
        due.wrong("!Hold;");
        due.wrong("!\u0001");
        due.wrong("hold; !\u0001hold;");
        due.wrong("hold; !\u007f");
        due.wrong("!" + ";".repeat(4000));
        due.wrong("wait " + "(".repeat(60) + "!" + "(".repeat(3935));
        due.wrong("hold!\t;");
        due.wrong("hold; !\r");
        due.wrong("hold !.;");
        due.wrong("wait 1 !.5 s;");
        // A capital letter is no letter: the word before it is looked at first.
        due.wrong("!5A");
    }

    private static void readsByTheGrammar() {
        due.wrong("hold; !signal b;");
        due.wrong("hold!");
        due.wrong("hold !}");
        due.wrong("!;");
        due.wrong("!x;");
        due.wrong("signal !;");
        due.wrong("signal !l;");
        due.wrong("signal a !min;");
        due.wrong("signal a l !l;");
        due.wrong("signal a!");
        due.wrong("output !set;");
        due.wrong("step a !;");
        due.wrong("step a { !signal b; }");
        due.wrong("step a { hold; !");
        due.wrong("par { }!");
        due.wrong("par { } !;");
        due.wrong("par !hold;");
        due.wrong("if 1 !{ }");
        due.wrong("if 1 < 2 !hold;");
        due.wrong("if 1 < 2 !< 3 { }");
        due.wrong("if 1 < 2 { } else { } !else { }");
        due.wrong("repeat !{ }");
        due.wrong("limit 1 < 2 { } !{ }");
        due.wrong("limit 1 < 2 { }!");
        due.wrong("ask !;");
        due.wrong("do !1;");
        due.wrong("until !;");
        due.wrong("wait (1 s!;");
        due.wrong("wait (!);");
        due.wrong("wait 1 s !);");
        due.wrong("wait 1 s !2;");
        due.wrong("output q; ramp q 1 !;");
        due.wrong("wait - !;");
        due.wrong("wait 1 s + !;");
        due.wrong("wait 1 s * !* 2;");
        due.wrong("wait !+ 1 s;");
        due.right("wait - - (- 1 s);", 1);
    }

    private static void readsNames() {
        due.wrong("signal a; signal !a;");
        due.wrong("signal a; output !a;");
        due.wrong("step a { } step !a { }");
        due.wrong("step a { do !a; }");
        due.wrong("step a { do !b; } step b { }");
        due.right("step a { } step b { do a; } do b;", 2);
        due.wrong("ask !a;");
        due.wrong("output a; ask !a;");
        due.wrong("signal a; set !a 1;");
        due.wrong("signal a; ramp !a 1 in 1 s;");
        due.wrong("step a { } set !a 1;");
        due.wrong("signal a; do !a;");
        due.wrong("step a { } repeat !a { }");
        due.wrong("repeat !a { }");
        due.wrong("output a; step b { set a 1; } set !b 1;");
        // What is wrong in a word is found before what is wrong in the words behind it.
        due.wrong("set !a 5x");
        due.wrong("signal a; signal !a 5x");
        due.right("signal a; output b; set b a + b;", 1);
    }

    private static void readsActs() {
        due.right("act 0; act 63; act 007;", 3);
        due.wrong("act !64;");
        due.wrong("act !1.0;");
        due.wrong("act !999999999;");
        due.wrong("act !x;");
        due.wrong("act !- 1;");
        due.wrong("act 5 !s;");
        due.wrong("act 64!x;");
    }

    private static void readsTimes() {
        due.right("wait 277777 h;", 1);
        due.right("wait 277777.777 h;", 1);
        due.wrong("wait 277777.778 !h;");
        due.right("wait 16666666.666 min;", 1);
        due.wrong("wait 16666666.667 !min;");
        due.wrong("wait 999999999 !h;");
        due.right("wait 999999999.999 s;", 1);
        // Without the h the number would be well: the h is wrong, not the sum.
        due.wrong("repeat 999999999 !h { }");
        due.wrong("repeat 1 h !{ }");
    }

    private static void readsUnits() {
        String names = "signal a l; signal n; output q l; output o; ";
        due.right(names + "set q a; set o n; set q 1 l + a - 2 l;", 3);
        due.wrong(names + "set q 1!;");
        due.wrong(names + "set q 1 c!;");
        due.wrong(names + "set o 1 l!;");
        due.wrong(names + "set q 1 c !5;");
        due.wrong("wait 5 l!;");
        due.wrong("wait 5!;");
        due.wrong(names + "ramp q 1 !in 1 s;");
        due.wrong(names + "ramp q 1 l in 1!;");
        due.right(names + "ramp q 1 l in 1 min;", 1);
        due.wrong("repeat 1 s !{ }");
        due.right("repeat 1 s / 2 s { }", 1);
        due.right("repeat 6 / 2 { }", 1);
        due.right("wait 2 * 3 s; wait 3 s * 2; wait 3 s / 2; wait - (1 s);", 4);
        due.wrong("wait 2 s !* 3 s;");
        due.wrong("wait 2 !/ 3 s;");
        due.wrong("wait 2 l !/ 3 s;");
        due.wrong("wait 2 s !+ 3;");
        due.wrong("wait 2 !- 3 s;");
        due.wrong("wait (2 s !+ 3);");
        due.wrong("wait 2 s !+ 3 * 4;");
        due.right("wait 2 s + 3 * 4 s;", 1);
        due.right("until 1 < 2; until 1 l = 2 l; until 1 part > 2 part; until 1 bar < 2 bar; until 1 c = 1 c;", 5);
        due.wrong("until 1 l !< 2;");
        due.wrong("until 1 !> 2 s;");
        due.wrong("if 1 c != 2 l { }");
        due.right("until 1 min < 1 h;", 1);
    }

    private static void looksAtOperatorsLate() {
        due.wrong("wait 2 s !+ 3 {");
        due.wrong("wait 2 s !+ 3");
        due.wrong("wait (2 s !+ 3;");
        due.wrong("until 1 s !< 2 {");
        due.wrong("wait 2 s + 3 5!x");
        due.wrong("wait 2 s + 3 hold!.");
        due.wrong("until 1 s < 2 1.234!5");
        due.wrong("wait 2 s + !;");
        due.wrong("wait 2 s + 3 * !;");
        due.wrong("wait 2 s + 3 l !* 4 l;");
        due.wrong("wait 2 l !+ 3 s + 4;");
        // A byte that begins no word is not wrong as it is read, but as it cannot stand there.
        due.wrong("wait 2 s !+ 3 @");
    }

    private static void countsWhatIsOpen() {
        due.right("wait " + "(".repeat(60) + "1 s" + ")".repeat(60) + ";", 1);
        due.wrong("wait " + "(".repeat(60) + "!(1 s");
        due.right("wait " + "-".repeat(60) + "1 s;", 1);
        due.wrong("wait " + "-".repeat(60) + "!-1 s;");
        due.right("wait " + "-".repeat(60) + "1 s - " + "-".repeat(60) + "1 s;", 1);
        due.right("repeat 1 {".repeat(60) + "}".repeat(60), 60);
        due.wrong("repeat 1 {".repeat(60) + "repeat 1 !{");
        String half = "repeat 1 {".repeat(30) + "wait " + "(-".repeat(15);
        due.right(half + "1 s" + ")".repeat(15) + ";" + "}".repeat(30), 31);
        due.wrong(half + "!(");
        due.wrong(half + "!-");
        due.right("step a { " + "par { } {".repeat(59) + "}".repeat(60), 59);
        due.wrong("step a { " + "par { } {".repeat(59) + "par !{");
    }

    private static void countsNames() {
        StringBuilder names = new StringBuilder();
        for (int i = 0; i < 100; i++) {
            names.append(i % 2 == 0 ? "signal a" : "output a").append(i).append(";");
        }
        due.right(names + "set a99 a98;", 1);
        due.wrong(names + "signal !b;");
        due.wrong(names + "step !b { }");
        due.wrong(names + "output !a0;");
    }

    private static void countsNodes() {
        // A sum of n numbers has 2n - 1 nodes, the repeat a block and itself.
        due.right("repeat 1" + "+1".repeat(498) + " { }" + "hold;", 2);
        due.wrong("repeat 1" + "+1".repeat(498) + " { }" + "hold; hold;!");
        due.wrong("repeat 1" + "+1".repeat(498) + " { }" + "hold; hold;!hold;");
        due.wrong("repeat 1" + "+1".repeat(499) + " { }!");
        due.wrong("repeat 1" + "+1".repeat(499) + " { hold; hold; !}");
        due.wrong("repeat 1" + "+1".repeat(500) + " !{ }");
        due.wrong("repeat 1" + "+1".repeat(500) + "!+1 { }");
        due.wrong("hold; repeat 1" + "+1".repeat(499) + "+1!+1 { }");
        // The operator is looked at before the word behind the node too many.
        due.wrong("hold; wait 1" + "+1".repeat(499) + "!+1 s;");
        due.wrong("hold; wait 1" + "+1".repeat(499) + "!+" + "-".repeat(60) + "1 s;");
        due.wrong("hold; wait 1" + "+1".repeat(499) + "+1 2!x");
    }
}
