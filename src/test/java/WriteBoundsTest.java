/** The boundaries of promise 12: a method for each sentence. */
public final class WriteBoundsTest {
    private static final Due due = new Due();

    public static void main(String[] args) {
        allWordsWithABlankBetween();
        declarationsAndStatementsAtTheBeginning();
        endsOfBlocksAtTheBeginning();
        noBlankBeforeALinesEnd();
        eachLineEndsWith10();
        ofAProgramOfNothing();
        numbersAreInS();
        withoutZerosAtTheEnd();
        bracketsAroundPlusAndMinus();
        bracketsAroundTimesAndOver();
        bracketsAroundTheSecondChild();
        noOtherBrackets();
        noneWhenThereIsNone();
        due.end();
    }

    private static void written(String text, String want) {
        due.same("written of " + text, Due.written(Due.program(text)), want);
    }

    private static void allWordsWithABlankBetween() {
        due.by("all words with a blank between");
        written("signal a l;until-a/(1 l-2 l)*3 l<4 l;",
                "signal a l ;\nuntil - a / ( 1 l - 2 l ) * 3 l < 4 l ;\n");
        written("output q;ramp   q\n1\n\nin 2\ns\n;", "output q ;\nramp q 1 in 2 s ;\n");
        written("act 63;", "act 63 ;\n");
        written("signal abcdefghijkl part;ask abcdefghijkl;", "signal abcdefghijkl part ;\nask abcdefghijkl ;\n");
        for (String name : "a z az za a0 a9 z9 b90 mnopqrstuvwx yz0123456789 zzzzzzzzzzzz z99999999999 a00000000000".split(" ")) {
            written("signal " + name + ";repeat " + name + "{}", "signal " + name + " ;\nrepeat " + name + " {\n}\n");
            written("output " + name + ";set " + name + " 1;", "output " + name + " ;\nset " + name + " 1 ;\n");
            written("step " + name + "{}do " + name + ";", "step " + name + " {\n}\ndo " + name + " ;\n");
        }
    }

    private static void declarationsAndStatementsAtTheBeginning() {
        due.by("each declaration and each statement .. at the beginning of a line");
        written("signal a;output q;step e{}signal b;step f{}hold;stop;",
                "signal a ;\noutput q ;\nstep e {\n}\nsignal b ;\nstep f {\n}\nhold ;\nstop ;\n");
        written("step e{}step f{do e;}output q;", "step e {\n}\nstep f {\ndo e ;\n}\noutput q ;\n");
        written("signal a;output q;step e{}set q a;wait 1 s;until 1<2;ramp q 1 in 1 s;par{}{}if 1=2{}repeat 1{}"
                + "limit 1>2{}then{}ask a;do e;stop;hold;act 1;",
                "signal a ;\noutput q ;\nstep e {\n}\nset q a ;\nwait 1 s ;\nuntil 1 < 2 ;\nramp q 1 in 1 s ;\npar {\n} {\n}\n"
                + "if 1 = 2 {\n}\nrepeat 1 {\n}\nlimit 1 > 2 {\n} then {\n}\nask a ;\ndo e ;\nstop ;\nhold ;\nact 1 ;\n");
        written("repeat 1{hold;repeat 2{stop;}hold;}", "repeat 1 {\nhold ;\nrepeat 2 {\nstop ;\n}\nhold ;\n}\n");
    }

    private static void endsOfBlocksAtTheBeginning() {
        due.by("each } that ends a block of them, at the beginning of a line");
        written("repeat 1{}", "repeat 1 {\n}\n");
        written("repeat 1{hold;}", "repeat 1 {\nhold ;\n}\n");
        written("repeat 1{repeat 2{}}", "repeat 1 {\nrepeat 2 {\n}\n}\n");
        written("if 1<2{}else{}", "if 1 < 2 {\n} else {\n}\n");
        written("limit 1<2{hold;}then{stop;}", "limit 1 < 2 {\nhold ;\n} then {\nstop ;\n}\n");
        written("par{}{}{hold;}", "par {\n} {\n} {\nhold ;\n}\n");
        written("repeat 1{".repeat(60) + "}".repeat(60), "repeat 1 {\n".repeat(60) + "}\n".repeat(60));
    }

    private static void noBlankBeforeALinesEnd() {
        due.by("(no blank before a line's end; { ends a line");
        String text = Due.written(Due.program("signal a;step e{}par{hold;}{if 1<2{}else{ask a;}}limit 1<2{}then{}"));
        due.same("a blank before a line's end", text.contains(" \n"), false);
        due.same("a blank at the beginning", text.startsWith(" ") || text.contains("\n "), false);
        due.same("a line of nothing", text.contains("\n\n"), false);
        due.same("{ within a line", text.replace("{\n", "").contains("{"), false);
    }

    private static void eachLineEndsWith10() {
        due.by("each line, the last one too, ends with a 10");
        for (String text : new String[] {"signal a;", "output a;", "step a{}", "hold;", "repeat 1{}", "par{}{}", "hold;\n"}) {
            StepText x = Due.program(text);
            String written = Due.written(x);
            due.same("the last byte of " + text, x.write(written.length() - 1), 10);
            due.same("not two of them in " + text, written.endsWith("\n\n"), false);
        }
    }

    private static void ofAProgramOfNothing() {
        due.by("of a program of nothing there is none");
        due.same("new", new StepText().write(0), -1);
        due.same("of an empty text", Due.program("").write(0), -1);
        due.same("of blanks", Due.program(" \n\n ").write(0), -1);
        StepText x = Due.program("hold;");
        due.same("a program", x.write(0), 'h');
        x.read();
        due.same("then nothing", x.write(0), -1);
        // a declaration alone is a program
        written("signal a;", "signal a ;\n");
    }

    private static void numbersAreInS() {
        due.by("Numbers are in s for min and h");
        written("wait 1 min;", "wait 60 s ;\n");
        written("wait 1 h;", "wait 3600 s ;\n");
        written("wait 0 min;wait 0 h;", "wait 0 s ;\nwait 0 s ;\n");
        written("wait 0.001 min;", "wait 0.06 s ;\n");
        written("wait 0.001 h;", "wait 3.6 s ;\n");
        written("wait 16666666.666 min;", "wait 999999999.96 s ;\n");
        written("wait 277777.777 h;", "wait 999999997.2 s ;\n");
        written("wait 9 h" + "+9 h".repeat(498) + ";", "wait 32400 s" + " + 32400 s".repeat(498) + " ;\n");
    }

    private static void withoutZerosAtTheEnd() {
        due.by("without 0s at the end of their thousandths");
        String[] numbers = {"0", "0.0", "0.00", "0.000", "0.1", "0.10", "0.100", "0.01", "0.010", "0.001", "0.101", "0.110",
            "1.000", "10", "100.0", "1.5", "1.50", "1.500", "1.05", "1.050", "1.005", "123456789.123", "999999999.999",
            "999999999", "100000000.100"};
        String[] wanted = {"0", "0", "0", "0", "0.1", "0.1", "0.1", "0.01", "0.01", "0.001", "0.101", "0.11",
            "1", "10", "100", "1.5", "1.5", "1.5", "1.05", "1.05", "1.005", "123456789.123", "999999999.999",
            "999999999", "100000000.1"};
        for (int i = 0; i < numbers.length; i++) {
            written("repeat " + numbers[i] + "{}", "repeat " + wanted[i] + " {\n}\n");
            written("wait " + numbers[i] + " s;", "wait " + wanted[i] + " s ;\n");
        }
        for (int act : new int[] {0, 1, 9, 10, 20, 60, 63}) {
            written("act " + act + ";", "act " + act + " ;\n");
        }
    }

    /** A sum in brackets within another one: whether they still stand around it. */
    private static void bracketed(String before, String inner, String behind, boolean due) {
        written("repeat " + before + "( " + inner + " )" + behind + " { }",
                "repeat " + before + (due ? "( " + inner + " )" : inner) + behind + " {\n}\n");
    }

    private static final String[] SUMS = {"1 + 2", "1 - 2"};
    private static final String[] PRODUCTS = {"1 * 2", "1 / 2"};

    private static void bracketsAroundPlusAndMinus() {
        due.by("brackets stand around a + or - that is a child of * / or of - of a factor");
        for (String sum : SUMS) {
            bracketed("", sum, " * 3", true);
            bracketed("", sum, " / 3", true);
            bracketed("3 * ", sum, "", true);
            bracketed("3 / ", sum, "", true);
            bracketed("- ", sum, "", true);
            bracketed("3 * ", sum, " / 4", true);
            bracketed("- - ", sum, "", true);
        }
    }

    private static void bracketsAroundTimesAndOver() {
        due.by("around a * or / that is a child of - of a factor");
        for (String product : PRODUCTS) {
            bracketed("- ", product, "", true);
            bracketed("- - ", product, "", true);
            bracketed("3 - - ", product, "", true);
        }
    }

    private static void bracketsAroundTheSecondChild() {
        due.by("around a + - * / that is the second child of one of the same two");
        for (String outer : new String[] {"+", "-"}) {
            for (String sum : SUMS) {
                bracketed("3 " + outer + " ", sum, "", true);
                bracketed("", sum, " " + outer + " 3", false);
            }
        }
        for (String outer : new String[] {"*", "/"}) {
            for (String product : PRODUCTS) {
                bracketed("3 " + outer + " ", product, "", true);
                bracketed("", product, " " + outer + " 3", false);
            }
        }
    }

    private static void noOtherBrackets() {
        due.by("brackets stand around .. and around .. : around nothing else");
        for (String inner : new String[] {"1", "1.5", "- 1", "- - 1"}) {
            bracketed("", inner, "", false);
            bracketed("- ", inner, "", false);
            for (String outer : new String[] {"+", "-", "*", "/"}) {
                bracketed("3 " + outer + " ", inner, "", false);
                bracketed("", inner, " " + outer + " 3", false);
            }
        }
        for (String product : PRODUCTS) {
            bracketed("", product, "", false);
            for (String outer : new String[] {"+", "-"}) {
                bracketed("3 " + outer + " ", product, "", false);
                bracketed("", product, " " + outer + " 3", false);
            }
        }
        for (String sum : SUMS) {
            bracketed("", sum, "", false);
            written("until (" + sum + ") < (" + sum + ");", "until " + sum + " < " + sum + " ;\n");
            written("output q; set q (" + sum + "); ramp q (" + sum + ") in (1 s);",
                    "output q ;\nset q " + sum + " ;\nramp q " + sum + " in 1 s ;\n");
        }
        written("repeat ((((1))) + ((2))) {}", "repeat 1 + 2 {\n}\n");
        written("repeat " + "-(".repeat(30) + "1+2" + ")".repeat(30) + "{}", "repeat " + "- ".repeat(30) + "( 1 + 2 ) {\n}\n");
    }

    private static void noneWhenThereIsNone() {
        due.by("NONE when there is none.");
        StepText x = Due.program("hold;");
        String want = "hold ;\n";
        for (int i = 0; i < want.length(); i++) {
            due.same("write(" + i + ")", x.write(i), want.charAt(i));
        }
        for (int i : new int[] {Integer.MIN_VALUE, -2, -1, want.length(), want.length() + 1, 12000, Integer.MAX_VALUE}) {
            due.same("write(" + i + ")", x.write(i), -1);
        }
        longestText();
        StepText wide = Due.program("hold;".repeat(800));
        due.same("write(4000)", wide.write(4000), "hold ;\n".charAt(4000 % 7));
        due.same("write(5599)", wide.write(5599), 10);
        due.same("write(5600)", wide.write(5600), -1);
    }

    /** 1,000 nodes and 100 NAMES in nearly 4,000 bytes, of words that grow as much as words can. */
    private static void longestText() {
        StringBuilder told = new StringBuilder();
        StringBuilder grownTold = new StringBuilder();
        for (int i = 0; i < 100; i++) {
            String name = "" + "mnopqrstuv".charAt(i / 10) + i % 10;
            told.append("signal " + name + ";");
            grownTold.append("signal " + name + " ;\n");
        }
        String nested = "9 h-(".repeat(60) + "9 h-9 h" + ")".repeat(60);
        String grown = "32400 s - ( ".repeat(60) + "32400 s - 32400 s" + " )".repeat(60);
        String text = told + "wait " + nested + ("-" + nested).repeat(7) + "-9 h".repeat(4) + ";";
        String grownText = grownTold + "wait " + grown + (" - " + grown).repeat(7) + " - 32400 s".repeat(4) + " ;\n";
        due.same("as long as can be read", text.length() > 3900 && text.length() <= 4000, true);
        due.same("and more than twice as long", grownText.length() > 2 * 4000, true);
        due.same("with 1,000 nodes", Due.program(text).what(999), 11);
        written(text, grownText);
    }
}
