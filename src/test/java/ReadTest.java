/** Promise 3: how many statements there are, and where a text is wrong. */
public final class ReadTest {
    private static final Due due = new Due();

    public static void main(String[] args) {
        countsStatements();
        keepsTheProgram();
        readsWords();
        readsByTheGrammar();
        readsNames();
        readsActs();
        readsTimes();
        readsUnits();
        looksAtOperatorsLate();
        countsWhatIsOpen();
        countsNames();
        countsNodes();
        due.end();
    }

    /** The mark ! stands before the first wrong byte. */
    private static void wrong(String marked) {
        int place = marked.indexOf('!');
        String text = marked.substring(0, place) + marked.substring(place + 1);
        due.same("read of " + marked, Due.read(new StepText(), text), -1 - place);
    }

    private static void right(String text, int statements) {
        due.same("read of " + text, Due.read(new StepText(), text), statements);
    }

    private static void countsStatements() {
        right("", 0);
        right(" \n ", 0);
        right("signal a; output b l; step d { }", 0);
        right("hold;", 1);
        right("step d { hold; stop; } do d;", 3);
        right("par { hold; } { } { act 1; act 2; }", 4);
        right("if 1 < 2 { repeat 3 { hold; } } else { limit 1 = 1 { } then { stop; } }", 5);
        right("output q; signal a; set q 1; wait 1 s; until 1 > 2; ramp q 1 in 1 s; ask a;", 5);
    }

    private static void keepsTheProgram() {
        StepText x = Due.program("signal a; ask a;");
        due.same("wrong", Due.read(x, "hold; hold"), -11);
        due.same("the program stays", Due.written(x), "signal a ;\nask a ;\n");
        due.same("the text is empty", x.read(), 0);
        due.same("a program of nothing", Due.written(x), "");
        due.same("names are told anew", Due.read(x, "signal a; ask a;"), 1);
        due.same("and again", Due.read(x, "step a { } do a;"), 1);
    }

    private static void readsWords() {
        wrong("1!abc");
        wrong("5!.");
        wrong("5!.x");
        wrong("wait 5!. s;");
        wrong("wait 1.234!5 s;");
        wrong("wait 1.2!.3 s;");
        wrong("wait 123456789!0 s;");
        wrong("wait 1!s;");
        wrong("abcdefghijkl!m");
        wrong("abcdefghijkl!1");
        wrong("hold!.");
        wrong("signal abcdefghijkl!m;");
        right("signal abcdefghijkl; ask abcdefghijkl;", 1);
        right("signal a1b2; ask a1b2;", 1);
        right("wait 123456789.123 s;", 1);
        right("hold;stop;act 1;", 3);
        right("\n\nhold\n;\n", 1);
        wrong("!@");
        wrong("!Hold;");
        wrong("!\u0001");
        wrong("hold; !\u0001hold;");
        wrong("hold; !\u007f");
        wrong("!" + ";".repeat(4000));
        wrong("wait " + "(".repeat(60) + "!" + "(".repeat(3935));
        wrong("hold!\t;");
        wrong("hold; !\r");
        wrong("hold !.;");
        wrong("wait 1 !.5 s;");
        // A capital letter is no letter: the word before it is looked at first.
        wrong("!5A");
    }

    private static void readsByTheGrammar() {
        wrong("hold; !signal b;");
        wrong("hold!");
        wrong("hold !}");
        wrong("!;");
        wrong("!x;");
        wrong("signal !;");
        wrong("signal !l;");
        wrong("signal a !min;");
        wrong("signal a l !l;");
        wrong("signal a!");
        wrong("output !set;");
        wrong("step a !;");
        wrong("step a { !signal b; }");
        wrong("step a { hold; !");
        wrong("par { }!");
        wrong("par { } !;");
        wrong("par !hold;");
        wrong("if 1 !{ }");
        wrong("if 1 < 2 !hold;");
        wrong("if 1 < 2 !< 3 { }");
        wrong("if 1 < 2 { } else { } !else { }");
        wrong("repeat !{ }");
        wrong("limit 1 < 2 { } !{ }");
        wrong("limit 1 < 2 { }!");
        wrong("ask !;");
        wrong("do !1;");
        wrong("until !;");
        wrong("wait (1 s!;");
        wrong("wait (!);");
        wrong("wait 1 s !);");
        wrong("wait 1 s !2;");
        wrong("output q; ramp q 1 !;");
        wrong("wait - !;");
        wrong("wait 1 s + !;");
        wrong("wait 1 s * !* 2;");
        wrong("wait !+ 1 s;");
        right("wait - - (- 1 s);", 1);
    }

    private static void readsNames() {
        wrong("signal a; signal !a;");
        wrong("signal a; output !a;");
        wrong("step a { } step !a { }");
        wrong("step a { do !a; }");
        wrong("step a { do !b; } step b { }");
        right("step a { } step b { do a; } do b;", 2);
        wrong("ask !a;");
        wrong("output a; ask !a;");
        wrong("signal a; set !a 1;");
        wrong("signal a; ramp !a 1 in 1 s;");
        wrong("step a { } set !a 1;");
        wrong("signal a; do !a;");
        wrong("step a { } repeat !a { }");
        wrong("repeat !a { }");
        wrong("output a; step b { set a 1; } set !b 1;");
        // What is wrong in a word is found before what is wrong in the words behind it.
        wrong("set !a 5x");
        wrong("signal a; signal !a 5x");
        right("signal a; output b; set b a + b;", 1);
    }

    private static void readsActs() {
        right("act 0; act 63; act 007;", 3);
        wrong("act !64;");
        wrong("act !1.0;");
        wrong("act !999999999;");
        wrong("act !x;");
        wrong("act !- 1;");
        wrong("act 5 !s;");
        wrong("act 64!x;");
    }

    private static void readsTimes() {
        right("wait 277777 h;", 1);
        right("wait 277777.777 h;", 1);
        wrong("wait 277777.778 !h;");
        right("wait 16666666.666 min;", 1);
        wrong("wait 16666666.667 !min;");
        wrong("wait 999999999 !h;");
        right("wait 999999999.999 s;", 1);
        // Without the h the number would be well: the h is wrong, not the sum.
        wrong("repeat 999999999 !h { }");
        wrong("repeat 1 h !{ }");
    }

    private static void readsUnits() {
        String names = "signal a l; signal n; output q l; output o; ";
        right(names + "set q a; set o n; set q 1 l + a - 2 l;", 3);
        wrong(names + "set q 1!;");
        wrong(names + "set q 1 c!;");
        wrong(names + "set o 1 l!;");
        wrong(names + "set q 1 c !5;");
        wrong("wait 5 l!;");
        wrong("wait 5!;");
        wrong(names + "ramp q 1 !in 1 s;");
        wrong(names + "ramp q 1 l in 1!;");
        right(names + "ramp q 1 l in 1 min;", 1);
        wrong("repeat 1 s !{ }");
        right("repeat 1 s / 2 s { }", 1);
        right("repeat 6 / 2 { }", 1);
        right("wait 2 * 3 s; wait 3 s * 2; wait 3 s / 2; wait - (1 s);", 4);
        wrong("wait 2 s !* 3 s;");
        wrong("wait 2 !/ 3 s;");
        wrong("wait 2 l !/ 3 s;");
        wrong("wait 2 s !+ 3;");
        wrong("wait 2 !- 3 s;");
        wrong("wait (2 s !+ 3);");
        wrong("wait 2 s !+ 3 * 4;");
        right("wait 2 s + 3 * 4 s;", 1);
        right("until 1 < 2; until 1 l = 2 l; until 1 part > 2 part; until 1 bar < 2 bar; until 1 c = 1 c;", 5);
        wrong("until 1 l !< 2;");
        wrong("until 1 !> 2 s;");
        wrong("if 1 c != 2 l { }");
        right("until 1 min < 1 h;", 1);
    }

    private static void looksAtOperatorsLate() {
        wrong("wait 2 s !+ 3 {");
        wrong("wait 2 s !+ 3");
        wrong("wait (2 s !+ 3;");
        wrong("until 1 s !< 2 {");
        wrong("wait 2 s + 3 5!x");
        wrong("wait 2 s + 3 hold!.");
        wrong("until 1 s < 2 1.234!5");
        wrong("wait 2 s + !;");
        wrong("wait 2 s + 3 * !;");
        wrong("wait 2 s + 3 l !* 4 l;");
        wrong("wait 2 l !+ 3 s + 4;");
        // A byte that begins no word is not wrong as it is read, but as it cannot stand there.
        wrong("wait 2 s !+ 3 @");
    }

    private static void countsWhatIsOpen() {
        right("wait " + "(".repeat(60) + "1 s" + ")".repeat(60) + ";", 1);
        wrong("wait " + "(".repeat(60) + "!(1 s");
        right("wait " + "-".repeat(60) + "1 s;", 1);
        wrong("wait " + "-".repeat(60) + "!-1 s;");
        right("wait " + "-".repeat(60) + "1 s - " + "-".repeat(60) + "1 s;", 1);
        right("repeat 1 {".repeat(60) + "}".repeat(60), 60);
        wrong("repeat 1 {".repeat(60) + "repeat 1 !{");
        String half = "repeat 1 {".repeat(30) + "wait " + "(-".repeat(15);
        right(half + "1 s" + ")".repeat(15) + ";" + "}".repeat(30), 31);
        wrong(half + "!(");
        wrong(half + "!-");
        right("step a { " + "par { } {".repeat(59) + "}".repeat(60), 59);
        wrong("step a { " + "par { } {".repeat(59) + "par !{");
    }

    private static void countsNames() {
        StringBuilder names = new StringBuilder();
        for (int i = 0; i < 100; i++) {
            names.append(i % 2 == 0 ? "signal a" : "output a").append(i).append(";");
        }
        right(names + "set a99 a98;", 1);
        wrong(names + "signal !b;");
        wrong(names + "step !b { }");
        wrong(names + "output !a0;");
    }

    private static void countsNodes() {
        // A sum of n numbers has 2n - 1 nodes, the repeat a block and itself.
        right("repeat 1" + "+1".repeat(498) + " { }" + "hold;", 2);
        wrong("repeat 1" + "+1".repeat(498) + " { }" + "hold; hold;!");
        wrong("repeat 1" + "+1".repeat(498) + " { }" + "hold; hold;!hold;");
        wrong("repeat 1" + "+1".repeat(499) + " { }!");
        wrong("repeat 1" + "+1".repeat(499) + " { hold; hold; !}");
        wrong("repeat 1" + "+1".repeat(500) + " !{ }");
        wrong("repeat 1" + "+1".repeat(500) + "!+1 { }");
        wrong("hold; repeat 1" + "+1".repeat(499) + "+1!+1 { }");
        // The operator is looked at before the word behind the node too many.
        wrong("hold; wait 1" + "+1".repeat(499) + "!+1 s;");
        wrong("hold; wait 1" + "+1".repeat(499) + "!+" + "-".repeat(60) + "1 s;");
        wrong("hold; wait 1" + "+1".repeat(499) + "+1 2!x");
    }
}
