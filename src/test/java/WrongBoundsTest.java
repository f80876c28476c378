/** The boundaries that the document names under A TEXT IS WRONG: a method for each sentence. */
public final class WrongBoundsTest {
    private static final Due due = new Due();

    public static void main(String[] args) {
        theFirstWordThatCannotStand();
        theEndToo();
        aNameThatIsNotWhatItMustBe();
        anOperatorWhoseUnitsDoNotAgree();
        whenAnOperatorIsLookedAt();
        theWordBehindASumOfAnotherUnit();
        moreThan60Blocks();
        moreThan60Brackets();
        moreThan60Signs();
        moreThan60OfAllThree();
        aSignIsOpenUpToTheEndOfItsFactor();
        whatIsTheThousandth();
        whatWouldBeThe1001st();
        theWordBehindTheNodeTooMany();
        due.end();
    }

    private static void theFirstWordThatCannotStand() {
        due.by("A TEXT IS WRONG at the first byte of the first word that cannot stand there");
        due.wrong("!x");
        due.wrong(" \n !x");
        due.wrong("hold; !holdhold;");
        due.wrong("hold; stop; !repeats 1 { } } } 5x");
        due.wrong("hold !hold; x; 5x; @");
        due.wrong("!@ 5x");
        due.wrong("signal !5; signal 5;");
        due.wrong("repeat 1 { ask !x; ask y; } 5x");
    }

    private static void theEndToo() {
        due.by("A TEXT IS WRONG at .. (the end, too)");
        due.wrong("hold!");
        due.wrong("hold !");
        due.wrong("hold \n\n !");
        due.wrong("signal!");
        due.wrong("repeat 1 {!");
        due.wrong("repeat 1 {\n!");
        due.wrong("wait 1 s!");
        due.wrong("wait (1 s!");
        due.wrong("act!");
        due.wrongAt("hold" + " ".repeat(3996), 4000);
        due.wrongAt("hold;".repeat(799) + "hold ", 4000);
        due.right(" ".repeat(4000), 0);
        due.right("\n", 0);
    }

    private static void aNameThatIsNotWhatItMustBe() {
        due.by("A TEXT IS WRONG at .. a NAME that is not what it must be");
        due.wrong("set !q");
        due.wrong("signal q; set !q");
        due.wrong("output q; ask !q 5x");
        due.wrong("output q; do !q l l l");
        due.wrong("step q { } wait 1 s + !q");
        due.wrong("step q { } wait 1 l + !q + 1 s;");
    }

    private static void anOperatorWhoseUnitsDoNotAgree() {
        due.by("A TEXT IS WRONG at .. an operator whose units do not agree");
        for (String sign : new String[] {"+", "-", "*", "/"}) {
            due.wrong("wait 1 l !" + sign + " 1 s;");
            due.wrong("wait (1 l !" + sign + " 1 s);");
            due.wrong("wait - (1 l\n!" + sign + "\n1 s);");
        }
        for (String sign : new String[] {"<", "=", ">"}) {
            due.wrong("until 1 l !" + sign + " 1 s;");
            due.wrong("if 1 l !" + sign + " 1 { }");
            due.wrong("limit 1 !" + sign + " 1 s { } then { }");
        }
        // the first one that does not agree, from the left and from within
        due.wrong("wait 1 l !+ 1 s + 1 c;");
        due.wrong("wait 1 l + 1 l !+ 1 c;");
        due.wrong("wait 1 s + 1 l !* 1 c;");
        due.wrong("wait 1 s + (1 l !+ 1 c);");
        due.wrong("until 1 s + 1 l !* 1 c < 1 s + 1;");
        due.wrong("until 1 s < 1 l !+ 1 c;");
        due.wrong("until 1 s !< 1 l + 1 l;");
    }

    private static void whenAnOperatorIsLookedAt() {
        due.by("(it is looked at when what stands behind it, and the next word, were read, before it is looked whether"
                + " that can stand there)");
        // what stands behind it is read first
        due.wrong("wait 1 s + !;");
        due.wrong("wait 1 s + !x;");
        due.wrong("wait 1 s + 1 * !;");
        due.wrong("wait 1 s + (1!;");
        due.wrong("wait 1 s + - !;");
        due.wrong("wait 1 s + 999999999 !h;");
        due.wrong("until 1 s < 1 + !;");
        // then the next word is read: it may be wrong in itself
        due.wrong("wait 1 s + 1 5!x;");
        due.wrong("wait 1 s + 1 hold!.;");
        due.wrong("wait 1 s + 1 5!.");
        due.wrong("wait 1 s * 1 s abcdefghijkl!m;");
        due.wrong("until 1 s < 1 123456789!0;");
        due.wrong("wait 1 s + (1) 5!x;");
        due.wrong("wait 1 s + 1 l!.;");
        // then the operator is looked at, and only then whether the next word can stand there
        due.wrong("wait 1 s !+ 1");
        due.wrong("wait 1 s !+ 1 {");
        due.wrong("wait 1 s !+ 1 hold");
        due.wrong("wait 1 s !+ 1 )");
        due.wrong("wait (1 s !+ 1 ;");
        due.wrong("wait 1 s !+ 1 c c;");
        due.wrong("wait 1 s !* 1 s 5;");
        due.wrong("until 1 s !< 1 < 1;");
        due.wrong("until 1 s !< 1 }");
        due.wrong("if 1 s != 1 ;");
        due.wrong("wait 1 s !+ 1 ; 5x");
        // a + looks at its whole product, a test at its whole sum
        due.wrong("wait 1 s + 1 * 5!x;");
        due.right("wait 1 s + 1 * 1 s;", 1);
        due.right("until 1 s < 1 * 1 s - 2 s;", 1);
        due.wrong("until 1 s !< 1 * 1 l - 2 l 5;");
    }

    private static void theWordBehindASumOfAnotherUnit() {
        due.by("of set, wait, ramp, repeat the word behind a sum of another unit");
        due.wrong("output q l; set q 1 c!;");
        due.wrong("output q l; set q 1 c!");
        due.wrong("output q l; set q 1 c !hold");
        due.wrong("output q l; set q 1 5!x");
        due.wrong("wait 1 l\n!;");
        due.wrong("wait 1 l + 1 l !;");
        due.wrong("output q l; ramp q 1 c !in 1 s;");
        due.wrong("output q l; ramp q 1 l in 1 l !;");
        due.wrong("repeat 1 l !{ }");
        due.wrong("repeat 1 l !}");
        // an operator of the sum comes before it
        due.wrong("wait 1 l !+ 1;");
        due.wrong("repeat 1 l !+ 1 { }");
    }

    private static void moreThan60Blocks() {
        due.by("a word { .. with which more than 60 of these are open");
        due.right("repeat 1{".repeat(60) + "}".repeat(60), 60);
        due.wrong("repeat 1{".repeat(60) + "repeat 1!{");
        due.right("step a{" + "repeat 1{".repeat(59) + "}".repeat(60), 59);
        due.wrong("step a{" + "repeat 1{".repeat(59) + "repeat 1!{");
        for (String first : new String[] {"repeat 1", "par", "if 1<2", "limit 1<2"}) {
            due.wrong("repeat 1{".repeat(60) + first + " !{");
        }
        for (String second : new String[] {"par{}", "if 1<2{}else", "limit 1<2{}then", "par{}{}"}) {
            due.right((second + "{").repeat(59) + second + "{}" + "}".repeat(59), 60);
            // here its first block is one too many already
            due.wrong((second + "{").repeat(60) + second.replaceFirst("\\{", "!{"));
        }
        // blocks that ended are open no more
        due.right("repeat 1{}".repeat(61), 61);
        due.right("par" + "{}".repeat(61), 1);
        due.right("repeat 1{".repeat(59) + "par{}{hold;}{}" + "}".repeat(59) + "repeat 1{}", 62);
        due.right("step a{" + "repeat 1{".repeat(59) + "}".repeat(60) + "step b{" + "repeat 1{".repeat(59) + "}".repeat(60), 118);
    }

    private static void moreThan60Brackets() {
        due.by("a word .. ( .. with which more than 60 of these are open");
        due.right("wait " + "(".repeat(60) + "1 s" + ")".repeat(60) + ";", 1);
        due.wrong("wait " + "(".repeat(60) + "!(1 s" + ")".repeat(61) + ";");
        due.wrong("wait " + "(".repeat(60) + "1 s + !(1 s");
        due.right("wait " + "(".repeat(60) + "1 s" + ")".repeat(60) + " + " + "(".repeat(60) + "1 s" + ")".repeat(60) + ";", 1);
        due.right("until " + "(".repeat(60) + "1" + ")".repeat(60) + "<" + "(".repeat(60) + "1" + ")".repeat(60) + ";", 1);
        due.right("wait " + "(1 s)+".repeat(61) + "1 s;", 1);
        due.right("repeat " + "(".repeat(60) + "1" + ")".repeat(60) + "{}", 1);
        due.wrong("wait " + "(".repeat(60) + "1 s" + ")".repeat(59) + "!;");
        due.wrong("wait " + "(".repeat(60) + "1 s" + ")".repeat(60) + "!);");
        // the word is wrong before the word behind it is read
        due.wrong("wait " + "(".repeat(60) + "!(5x");
    }

    private static void moreThan60Signs() {
        due.by("a word .. - (of a factor) with which more than 60 of these are open");
        due.right("wait " + "-".repeat(60) + "1 s;", 1);
        due.wrong("wait " + "-".repeat(60) + "!-1 s;");
        due.wrong("wait " + "-".repeat(60) + "!(1 s);");
        due.right("wait 1 s" + "-1 s".repeat(61) + ";", 1);
        due.right("wait 1 s -" + "-".repeat(60) + "1 s;", 1);
        due.wrong("wait 1 s -" + "-".repeat(60) + "!-1 s;");
        // a - between two products is none of a factor
        due.right("wait " + "(".repeat(60) + "1 s - 1 s" + ")".repeat(60) + ";", 1);
        due.wrong("wait " + "(".repeat(60) + "1 s - !- 1 s");
    }

    private static void moreThan60OfAllThree() {
        due.by("a word { ( or - (of a factor) with which more than 60 of these are open");
        String open = "repeat 1{".repeat(20) + "wait " + "(".repeat(20) + "-".repeat(20);
        due.right(open + "1 s" + ")".repeat(20) + ";" + "}".repeat(20), 21);
        due.wrong(open + "!(");
        due.wrong(open + "!-");
        due.right("repeat 1{".repeat(59) + "wait(1 s);wait-1 s;repeat(1){}" + "}".repeat(59), 62);
        due.wrong("repeat 1{".repeat(59) + "wait(!(");
        due.wrong("repeat 1{".repeat(59) + "wait(!-");
        due.wrong("repeat 1{".repeat(59) + "wait-!(");
        due.wrong("repeat 1{".repeat(60) + "wait!(");
        due.wrong("repeat 1{".repeat(60) + "wait!-");
        due.right("repeat 1{".repeat(60) + "wait 1 s-1 s;" + "}".repeat(60), 61);
        due.right("step a{" + "repeat 1{".repeat(58) + "wait(1 s);" + "}".repeat(59), 59);
        due.wrong("step a{" + "repeat 1{".repeat(58) + "wait(!-");
        due.right("if(1)<-1{" + "if(1)<-1{".repeat(58) + "if 1<(1){" + "}".repeat(60), 60);
        due.wrong("if 1<1{".repeat(60) + "if 1<!(1)");
    }

    private static void aSignIsOpenUpToTheEndOfItsFactor() {
        due.by("(a - up to the end of its factor)");
        // behind the factor all of them are open no more
        due.right("repeat " + "-".repeat(60) + "1{" + "repeat 1{".repeat(59) + "}".repeat(60), 60);
        due.right("wait " + "-".repeat(60) + "1 s*" + "-".repeat(60) + "1;", 1);
        due.right("wait " + "-".repeat(60) + "1 s+" + "-".repeat(60) + "1 s;", 1);
        due.right("until " + "-".repeat(60) + "1<" + "-".repeat(60) + "1;", 1);
        due.right("wait (" + "-".repeat(59) + "1 s/" + "-".repeat(59) + "1);", 1);
        // but in brackets that are its factor, up to the end of these
        due.right("wait -(" + "(".repeat(58) + "1 s" + ")".repeat(59) + ";", 1);
        due.wrong("wait -(" + "(".repeat(58) + "!-1 s");
        due.wrong("wait -(1 s + " + "(".repeat(58) + "!(1 s");
        due.right("wait -(1 s)+" + "(".repeat(60) + "1 s" + ")".repeat(60) + ";", 1);
        due.right("wait " + "-(".repeat(30) + "1 s" + ")".repeat(30) + "*(1);", 1);
        due.wrong("wait " + "-(".repeat(30) + "1 s*!(1)");
        due.right("wait " + "-(".repeat(29) + "-1 s*-1" + ")".repeat(29) + ";", 1);
    }

    /** Statements of so many nodes. */
    private static String filled(int nodes) {
        if (nodes < 3) {
            return "hold;".repeat(nodes);
        }
        return "repeat 1" + "+1".repeat((nodes - 3) / 2) + "{}" + (nodes % 2 == 0 ? "hold;" : "");
    }

    // Statements, how many nodes each has, and of what kind the last one is.
    private static final String TOLD = "signal a;output q;step e{}";
    private static final int TOLD_NODES = 2;
    private static final String[] LAST = {
        "set q 1;", "wait 1 s;", "until 1<2;", "ramp q 1 in 1 s;", "par{}{}", "if 1<2{}", "if 1<2{}else{}", "repeat 1{}",
        "limit 1<2{}then{}", "ask a;", "do e;", "stop;", "hold;", "act 1;"};
    private static final int[] LAST_NODES = {2, 2, 4, 3, 3, 5, 6, 3, 6, 1, 1, 1, 1, 1};
    private static final int[] LAST_KINDS = {10, 11, 12, 13, 14, 15, 15, 16, 17, 18, 19, 20, 21, 22};

    private static void whatIsTheThousandth() {
        due.by("the word behind a node that would be the 1,001st: the 1,000th still goes");
        for (int i = 0; i < LAST.length; i++) {
            String text = TOLD + filled(1000 - TOLD_NODES - LAST_NODES[i]) + LAST[i];
            due.same("node 999 of " + text, Due.program(text).what(999), LAST_KINDS[i]);
        }
        StepText x = Due.program("step a{" + filled(998) + "}");
        due.same("step 999", x.what(999), 24);
        due.same("block 998", x.what(998), 23);
        due.same("no node 1,000", x.what(1000), -1);
        // brackets and declarations make no node
        due.right("signal b;" + filled(998) + "wait ((1 s));", 3);
    }

    private static void whatWouldBeThe1001st() {
        due.by("and the word behind a node that would be the 1,001st");
        for (int i = 0; i < LAST.length; i++) {
            String text = TOLD + filled(1001 - TOLD_NODES - LAST_NODES[i]) + LAST[i];
            due.wrong(text + "!");
            due.wrong(text + " \n!");
            due.wrong(text + "\n!hold;");
            due.wrong(text + "!@");
            due.wrong(text + " 5!x");
        }
        due.wrong("step a{" + filled(999) + "}!");
        due.wrong("step a{" + filled(999) + "} !signal b;");
        due.wrong("step a{" + filled(1000) + "}!");
        due.wrong("step a{" + filled(1001) + "!}");
    }

    private static void theWordBehindTheNodeTooMany() {
        due.by("the word behind a node that would be the 1,001st: within a statement, too");
        String full = filled(1000);
        due.wrong(full + "wait 1 s!;");
        due.wrong(full + "wait 1 min !+ 1 s;");
        due.wrong(full + "repeat 1!{}");
        due.wrong(full + "repeat (1!)");
        due.wrong("signal a;" + full + "repeat a!{}");
        due.wrong("signal a;" + full + "repeat a !+");
        due.wrong(full + "par {} !{}");
        due.wrong(full + "par {}!;");
        due.wrong(filled(999) + "repeat -1!{}");
        due.wrong(filled(999) + "repeat -(1)!{}");
        due.wrong(filled(999) + "repeat 1{}!");
        due.wrong(filled(999) + "par{}{}!hold;");
        due.wrong(filled(997) + "if 1<2{}!else{}");
        due.wrong(filled(996) + "if 1<2{}else{}!hold;");
        due.wrong(filled(997) + "limit 1<2{}!then{}");
        for (String sign : new String[] {"+", "-", "*", "/"}) {
            due.wrong(filled(998) + "repeat 1" + sign + "2!{}");
            due.wrong(filled(998) + "repeat (1" + sign + "2!)");
            due.wrong(filled(999) + "repeat 1" + sign + "2!{}");
            due.wrong(filled(997) + "repeat 1" + sign + "2{}!");
            due.right(filled(995) + "repeat 1" + sign + "2{}", 2);
        }
        for (String sign : new String[] {"<", "=", ">"}) {
            due.wrong(filled(998) + "until 1" + sign + "2!;");
            due.wrong(filled(997) + "until 1" + sign + "2;!");
            due.right(filled(996) + "until 1" + sign + "2;", 3);
        }
        // one word can end many nodes, and still it is the word behind them
        due.wrong(full + "wait " + "-".repeat(60) + "1 s!;");
        due.wrong(filled(999) + "until 1<" + "-".repeat(60) + "1!;");
        // a program that is refused leaves the one that was there
        StepText x = Due.program("hold;");
        due.same("too many", Due.read(x, full + "hold;"), -1 - full.length() - 5);
        due.same("the program that was there", Due.written(x), "hold ;\n");
    }
}
