/** Promise 12: a program as a text. */
public final class WriteTest {
    private static final Due due = new Due();

    public static void main(String[] args) {
        writesLines();
        writesNumbers();
        writesBrackets();
        writesBytes();
        writesLongPrograms();
        due.end();
    }

    private static void written(String text, String want) {
        StepText x = Due.program(text);
        due.same("written of " + text, Due.written(x), want);
        if (want.length() <= 4000) {
            due.same("written again of " + text, Due.written(Due.program(want)), want);
        }
    }

    private static void sum(String sum, String want) {
        written("signal a;signal b;signal d;repeat " + sum + "{}",
                "signal a ;\nsignal b ;\nsignal d ;\nrepeat " + want + " {\n}\n");
    }

    private static void wait(String sum, String want) {
        written("wait " + sum + ";", "wait " + want + " ;\n");
    }

    private static void writesLines() {
        written("", "");
        written("hold;", "hold ;\n");
        written("signal t c; signal n;\noutput q l;\nstep wash { set q 2 l; wait 1.5 min; stop; hold; }\n"
                + "set q 3 l * (n + 2) - - 1 l;\nramp q 4 l / n in 2 h + 1 s;\npar { do wash; } { }",
                "signal t c ;\nsignal n ;\noutput q l ;\nstep wash {\nset q 2 l ;\nwait 90 s ;\nstop ;\nhold ;\n}\n"
                + "set q 3 l * ( n + 2 ) - - 1 l ;\nramp q 4 l / n in 7200 s + 1 s ;\npar {\ndo wash ;\n} {\n}\n");
        written("step a{}signal b s;step e{do a;}output d part;do e;",
                "step a {\n}\nsignal b s ;\nstep e {\ndo a ;\n}\noutput d part ;\ndo e ;\n");
        written("signal a l;signal b c;signal c1 s;signal d bar;output e part;",
                "signal a l ;\nsignal b c ;\nsignal c1 s ;\nsignal d bar ;\noutput e part ;\n");
        written("signal abcdefghijkl;signal a0123456789z;signal z9;ask z9;ask a0123456789z;ask abcdefghijkl;",
                "signal abcdefghijkl ;\nsignal a0123456789z ;\nsignal z9 ;\n"
                + "ask z9 ;\nask a0123456789z ;\nask abcdefghijkl ;\n");
        written("if 1<2{hold;}else{stop;}", "if 1 < 2 {\nhold ;\n} else {\nstop ;\n}\n");
        written("if 1=2{}hold;", "if 1 = 2 {\n}\nhold ;\n");
        written("limit 1>2{hold;}then{}stop;", "limit 1 > 2 {\nhold ;\n} then {\n}\nstop ;\n");
        written("par{}{hold;}{}", "par {\n} {\nhold ;\n} {\n}\n");
        written("repeat 2{repeat 3{act 07;}}until 1 l<2 l;",
                "repeat 2 {\nrepeat 3 {\nact 7 ;\n}\n}\nuntil 1 l < 2 l ;\n");
        written("repeat 1{if 1<2{}else{par{}{}}hold;}", "repeat 1 {\nif 1 < 2 {\n} else {\npar {\n} {\n}\n}\nhold ;\n}\n");
        written("act 0;act 10;act 63;", "act 0 ;\nact 10 ;\nact 63 ;\n");
    }

    private static void writesNumbers() {
        wait("1 s", "1 s");
        wait("1.500 s", "1.5 s");
        wait("1.050 s", "1.05 s");
        wait("1.005 s", "1.005 s");
        wait("1.000 s", "1 s");
        wait("0 s", "0 s");
        wait("0.0 s", "0 s");
        wait("000 s", "0 s");
        wait("0.001 s", "0.001 s");
        wait("100 s", "100 s");
        wait("007.10 s", "7.1 s");
        wait("1.5 min", "90 s");
        wait("0.001 min", "0.06 s");
        wait("0.01 h", "36 s");
        wait("2 h", "7200 s");
        wait("277777.777 h", "999999997.2 s");
        wait("999999999.999 s", "999999999.999 s");
        wait("123456789 s", "123456789 s");
        wait("100000000 s", "100000000 s");
    }

    private static void writesBrackets() {
        sum("(a)", "a");
        sum("((a+b))", "a + b");
        sum("a+b-d", "a + b - d");
        sum("(a+b)-d", "a + b - d");
        sum("a+(b-d)", "a + ( b - d )");
        sum("a-(b+d)", "a - ( b + d )");
        sum("a+(b*d)", "a + b * d");
        sum("(a*b)+d", "a * b + d");
        sum("(a+b)*d", "( a + b ) * d");
        sum("a*(b-d)", "a * ( b - d )");
        sum("(a-b)/d", "( a - b ) / d");
        sum("a/(b+d)", "a / ( b + d )");
        sum("(a*b)*d", "a * b * d");
        sum("(a/b)*d", "a / b * d");
        sum("a*(b*d)", "a * ( b * d )");
        sum("a*(b/d)", "a * ( b / d )");
        sum("a/(b*d)", "a / ( b * d )");
        sum("-(a+b)", "- ( a + b )");
        sum("-(a-b)", "- ( a - b )");
        sum("-(a*b)", "- ( a * b )");
        sum("-(a/b)", "- ( a / b )");
        sum("-a*b", "- a * b");
        sum("(-a)*b", "- a * b");
        sum("a*(-b)", "a * - b");
        sum("a-(-b)", "a - - b");
        sum("-(-a)", "- - a");
        sum("-(a)", "- a");
        sum("((a+b)*d+a)*(b-(d-a))", "( ( a + b ) * d + a ) * ( b - ( d - a ) )");
        sum("-((a+b)*d)", "- ( ( a + b ) * d )");
        sum("(a+b)+(d+a)+b", "a + b + ( d + a ) + b");
        written("until (1+2)<(3+4);", "until 1 + 2 < 3 + 4 ;\n");
    }

    private static void writesBytes() {
        StepText x = Due.program("hold;");
        String want = "hold ;\n";
        for (int i = want.length() - 1; i >= 0; i--) {
            due.same("write(" + i + ")", x.write(i), want.charAt(i));
        }
        for (int i : new int[] {-1, want.length(), Integer.MIN_VALUE, Integer.MAX_VALUE}) {
            due.same("write(" + i + ")", x.write(i), -1);
        }
        Due.tell(x, "stop;");
        due.same("a text that is not read yet", Due.written(x), want);
        x.read();
        due.same("a new program", Due.written(x), "stop ;\n");
        Due.read(x, "stop");
        due.same("a wrong text", Due.written(x), "stop ;\n");
        x.read();
        due.same("a program of nothing", Due.written(x), "");
    }

    private static void writesLongPrograms() {
        // More than twice as long as it was read, and a tree as deep as there can be.
        written("wait 9 h" + "+9 h".repeat(498) + ";", "wait 32400 s" + " + 32400 s".repeat(498) + " ;\n");
        written("repeat " + "-".repeat(58) + "(1)" + "{}", "repeat " + "- ".repeat(58) + "1 {\n}\n");
        written("hold;".repeat(800), "hold ;\n".repeat(800));
        written("repeat 1{".repeat(60) + "}".repeat(60), "repeat 1 {\n".repeat(60) + "}\n".repeat(60));
    }
}
