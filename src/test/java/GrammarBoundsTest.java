/**
 * The boundaries that the document names under GRAMMAR: a method for each rule, with the fewest that it
 * takes, more than that, and what it takes no more.
 */
public final class GrammarBoundsTest {
    private static final Due due = new Due();
    private static final String[] NO_NAMES = ("signal output step set wait until ramp in par if else repeat limit"
            + " then ask do stop hold act l c s bar part min h").split(" ");

    public static void main(String[] args) {
        program();
        signalsAndOutputs();
        steps();
        blocks();
        units();
        set();
        waitAndUntil();
        ramp();
        par();
        ifAndElse();
        repeat();
        limit();
        askAndDo();
        stopAndHold();
        act();
        tests();
        sums();
        products();
        factors();
        noNames();
        due.end();
    }

    private static void program() {
        due.by("program: declaration* statement*");
        due.right("", 0);
        due.right("signal a;", 0);
        due.right("hold;", 1);
        due.right("signal a; output b; step d { } hold; stop;", 2);
        due.right("step d { } output b; signal a; stop; hold;", 2);
        due.wrong("hold; !signal a;");
        due.wrong("hold; !output a;");
        due.wrong("hold; !step a { }");
        due.wrong("!{ }");
        due.wrong("!a;");
        due.wrong("!;");
        due.wrong("!5;");
        for (String word : "in else then l c s bar part min h".split(" ")) {
            due.wrong("!" + word + ";");
            due.wrong("hold; !" + word + ";");
        }
    }

    private static void signalsAndOutputs() {
        due.by("declaration: signal NAME [unit] ; | output NAME [unit] ;");
        for (String first : new String[] {"signal", "output"}) {
            due.right(first + " a;", 0);
            due.right(first + " a l;", 0);
            due.wrong(first + "!");
            due.wrong(first + " !;");
            due.wrong(first + " !5;");
            due.wrong(first + " a!");
            due.wrong(first + " a l!");
            due.wrong(first + " a l !c;");
            due.wrong(first + " a !b;");
            due.wrong(first + " a !5 l;");
            due.wrong(first + " a !{ }");
            due.wrong(first + " a !" + first + " b;");
        }
    }

    private static void steps() {
        due.by("declaration: .. step NAME block");
        due.right("step a { }", 0);
        due.right("step a { hold; }", 1);
        due.wrong("step!");
        due.wrong("step !{ }");
        due.wrong("step !5 { }");
        due.wrong("step a!");
        due.wrong("step a !;");
        due.wrong("step a !l { }");
        due.wrong("step a !hold;");
        due.wrong("step a { }!;");
        due.wrong("step a { } !{ }");
    }

    private static void blocks() {
        due.by("block: { statement* }");
        due.right("repeat 1 { }", 1);
        due.right("repeat 1 { hold; }", 2);
        due.right("repeat 1 { " + "hold;".repeat(700) + "}", 701);
        due.wrong("repeat 1 {!");
        due.wrong("repeat 1 { hold;!");
        due.wrong("repeat 1 { !;");
        due.wrong("repeat 1 { !{ } }");
        due.wrong("repeat 1 { !signal a; }");
        due.wrong("repeat 1 { !output a; }");
        due.wrong("repeat 1 { !step a { } }");
        due.wrong("repeat 1 { !1 }");
        due.wrong("repeat 1 { } !}");
    }

    private static void units() {
        due.by("unit: l | c | s | bar | part");
        String[] units = {"l", "c", "s", "bar", "part"};
        for (int u = 0; u < units.length; u++) {
            due.right("signal a " + units[u] + ";", 0);
            due.right("output a " + units[u] + ";", 0);
            due.same("1 " + units[u], Due.program("until 1 " + units[u] + " < 2 " + units[u] + ";").unitOf(0), u + 1);
        }
        // min and h stand behind a NUMBER of a factor alone
        for (String word : "min h in signal then ll ba parts".split(" ")) {
            due.wrong("signal a !" + word + ";");
            due.wrong("output a !" + word + ";");
        }
    }

    private static void set() {
        due.by("statement: set NAME sum ;");
        due.right("output q; set q 1;", 1);
        due.right("output q; set q - 1 + 2;", 1);
        due.wrong("output q; set!");
        due.wrong("output q; set !1;");
        due.wrong("output q; set !;");
        due.wrong("output q; set q!");
        due.wrong("output q; set q !;");
        due.wrong("output q; set q != 1;");
        due.wrong("output q; set q 1!");
        due.wrong("output q; set q 1 !1;");
        due.wrong("output q; set q 1 !in 1 s;");
        due.wrong("output q; set q 1 !< 1;");
        due.wrong("output q; set q 1 !{ }");
    }

    private static void waitAndUntil() {
        due.by("statement: .. wait sum ; | until test ;");
        due.right("wait 1 s;", 1);
        due.wrong("wait!");
        due.wrong("wait !;");
        due.wrong("wait 1 s!");
        due.wrong("wait 1 s !1 s;");
        due.wrong("wait 1 s !< 1 s;");
        due.wrong("wait 1 s !{ }");
        due.right("until 1 < 2;", 1);
        due.wrong("until!");
        due.wrong("until !;");
        due.wrong("until 1 !;");
        due.wrong("until 1 < !;");
        due.wrong("until 1 < 2!");
        due.wrong("until 1 < 2 !{ }");
    }

    private static void ramp() {
        due.by("statement: .. ramp NAME sum in sum ;");
        due.right("output q; ramp q 1 in 1 s;", 1);
        due.wrong("output q; ramp!");
        due.wrong("output q; ramp !1 in 1 s;");
        due.wrong("output q; ramp q !in 1 s;");
        due.wrong("output q; ramp q 1!");
        due.wrong("output q; ramp q 1 !;");
        due.wrong("output q; ramp q 1 !1 s;");
        due.wrong("output q; ramp q 1 !then 1 s;");
        due.wrong("output q; ramp q 1 in!");
        due.wrong("output q; ramp q 1 in !;");
        due.wrong("output q; ramp q 1 in !in 1 s;");
        due.wrong("output q; ramp q 1 in 1 s!");
        due.wrong("output q; ramp q 1 in 1 s !in 1 s;");
    }

    private static void par() {
        due.by("statement: .. par block block block*");
        due.wrong("par!");
        due.wrong("par !;");
        due.wrong("par !hold;");
        due.wrong("par { }!");
        due.wrong("par { } !;");
        due.wrong("par { } !hold;");
        due.wrong("par { } !else { }");
        due.right("par { } { }", 1);
        due.right("par { } { } hold;", 2);
        due.right("par { } { } { }", 1);
        due.right("par " + "{}".repeat(900), 1);
        due.wrong("par { } { } !then { }");
        due.wrong("par { } { }!;");
        due.same("branches", Due.program("par " + "{}".repeat(900)).branch(900, 899), 899);
    }

    private static void ifAndElse() {
        due.by("statement: .. if test block [else block]");
        due.right("if 1 < 2 { }", 1);
        due.right("if 1 < 2 { } hold;", 2);
        due.right("if 1 < 2 { } else { }", 1);
        due.wrong("if!");
        due.wrong("if !{ }");
        due.wrong("if 1 !{ }");
        due.wrong("if 1 < 2!");
        due.wrong("if 1 < 2 !;");
        due.wrong("if 1 < 2 !else { }");
        due.wrong("if 1 < 2 { } !{ }");
        due.wrong("if 1 < 2 { } !then { }");
        due.wrong("if 1 < 2 { } else!");
        due.wrong("if 1 < 2 { } else !;");
        due.wrong("if 1 < 2 { } else !if 1 < 2 { }");
        due.wrong("if 1 < 2 { } else { } !else { }");
        due.wrong("if 1 < 2 { hold; !else { }");
        due.wrong("hold; !else { }");
    }

    private static void repeat() {
        due.by("statement: .. repeat sum block");
        due.right("repeat 1 { }", 1);
        due.right("repeat 1 { } hold;", 2);
        due.wrong("repeat!");
        due.wrong("repeat !{ }");
        due.wrong("repeat 1!");
        due.wrong("repeat 1 !;");
        due.wrong("repeat 1 !< 2 { }");
        due.wrong("repeat 1 { } !{ }");
        due.wrong("repeat 1 { } !else { }");
        due.wrong("repeat 1 { }!;");
    }

    private static void limit() {
        due.by("statement: .. limit test block then block");
        due.right("limit 1 < 2 { } then { }", 1);
        due.right("limit 1 < 2 { } then { } hold;", 2);
        due.wrong("limit!");
        due.wrong("limit !{ } then { }");
        due.wrong("limit 1 !{ } then { }");
        due.wrong("limit 1 < 2 !then { }");
        due.wrong("limit 1 < 2 { }!");
        due.wrong("limit 1 < 2 { } !{ }");
        due.wrong("limit 1 < 2 { } !else { }");
        due.wrong("limit 1 < 2 { } !hold;");
        due.wrong("limit 1 < 2 { } then!");
        due.wrong("limit 1 < 2 { } then !hold;");
        due.wrong("limit 1 < 2 { } then { } !then { }");
        due.wrong("limit 1 < 2 { } then { }!;");
    }

    private static void askAndDo() {
        due.by("statement: .. ask NAME ; | do NAME ;");
        due.right("signal a; ask a;", 1);
        due.wrong("signal a; ask!");
        due.wrong("signal a; ask !;");
        due.wrong("signal a; ask !1;");
        due.wrong("signal a; ask !(a);");
        due.wrong("signal a; ask a!");
        due.wrong("signal a; ask a !a;");
        due.wrong("signal a; ask a !+ 1;");
        due.right("step a { } do a;", 1);
        due.wrong("step a { } do!");
        due.wrong("step a { } do !;");
        due.wrong("step a { } do !1;");
        due.wrong("step a { } do !{ }");
        due.wrong("step a { } do a!");
        due.wrong("step a { } do a !a;");
    }

    private static void stopAndHold() {
        due.by("statement: .. stop ; | hold ;");
        for (String word : new String[] {"stop", "hold"}) {
            due.right(word + ";", 1);
            due.wrong(word + "!");
            due.wrong(word + " !" + word + ";");
            due.wrong(word + " !1;");
            due.wrong(word + " !{ }");
            due.wrong("repeat 1 { " + word + " !}");
        }
    }

    private static void act() {
        due.by("statement: .. act NUMBER ;");
        due.right("act 1;", 1);
        due.wrong("act!");
        due.wrong("act !;");
        due.wrong("act !- 1;");
        due.wrong("act !(1);");
        due.wrong("signal a; act !a;");
        due.wrong("act 1!");
        due.wrong("act 1 !1;");
        due.wrong("act 1 !+ 1;");
        due.wrong("act 1 !s;");
        due.wrong("act 1 !min;");
    }

    private static void tests() {
        due.by("test: sum (< | = | >) sum");
        due.right("until 1 < 2; until 1 = 2; until 1 > 2;", 3);
        due.right("until 1 + 2 < 3 - 4; if (1) > (2) { }", 2);
        due.wrong("until 1!;");
        due.wrong("until !< 1;");
        due.wrong("until 1 <!;");
        due.wrong("until 1 !2;");
        due.wrong("until 1 + 2!;");
        due.wrong("until 1 < 2 !< 3;");
        due.wrong("until 1 = 2 !> 3;");
        due.wrong("until (1 !< 2);");
        due.wrong("until - 1 < 2 != 3;");
    }

    private static void sums() {
        due.by("sum: product ((+ | -) product)*");
        due.right("repeat 1 { }", 1);
        due.right("repeat 1 + 2 { }", 1);
        due.right("repeat 1 - 2 { }", 1);
        due.right("repeat 1" + " + 2 - 3".repeat(200) + " { }", 1);
        due.wrong("repeat !+ 1 { }");
        due.wrong("repeat 1 + !{ }");
        due.wrong("repeat 1 - !{ }");
        due.wrong("repeat 1 + !+ 2 { }");
        due.wrong("repeat 1 - !+ 2 { }");
        due.right("repeat 1 + - 2 { }", 1);
    }

    private static void products() {
        due.by("product: factor ((* | /) factor)*");
        due.right("repeat 1 * 2 { }", 1);
        due.right("repeat 1 / 2 { }", 1);
        due.right("repeat 1" + " * 2 / 3".repeat(200) + " { }", 1);
        due.wrong("repeat !* 1 { }");
        due.wrong("repeat !/ 1 { }");
        due.wrong("repeat 1 * !{ }");
        due.wrong("repeat 1 / !{ }");
        due.wrong("repeat 1 * !* 2 { }");
        due.wrong("repeat 1 / !+ 2 { }");
        due.right("repeat 1 * - 2 { }", 1);
    }

    private static void factors() {
        due.by("factor: NUMBER [unit | min | h] | NAME | ( sum ) | - factor");
        for (String unit : "l c s bar part min h".split(" ")) {
            due.right("until 1 " + unit + " < 2 " + unit + ";", 1);
            due.wrong("until 1 " + unit + " !" + unit + " < 1;");
            due.wrong("until !" + unit + " < 1;");
            due.wrong("until (1) !" + unit + " < 1;");
            due.wrong("signal a; until a !" + unit + " < 1;");
        }
        due.wrong("until 1 !in < 1;");
        due.wrong("repeat 1 !1 { }");
        due.wrong("signal a; repeat a !a { }");
        due.wrong("signal a; repeat 1 !a { }");
        due.wrong("repeat 1 !(1) { }");
        due.right("repeat ((1)) { }", 1);
        due.wrong("repeat (!) { }");
        due.wrong("repeat ( !{ }");
        due.wrong("repeat (1 !{ }");
        due.wrong("repeat (1!");
        due.wrong("repeat ((1) !{ }");
        due.wrong("repeat 1 !) { }");
        due.wrong("repeat (1)!) { }");
        due.wrong("repeat (1 !, 2) { }");
        due.right("repeat - - 1 { }", 1);
        due.wrong("repeat - !{ }");
        due.wrong("repeat - !* 1 { }");
        due.wrong("repeat -!");
    }

    private static void noNames() {
        due.by("No NAMES are signal output step set wait until ramp in par if else repeat limit then ask do stop"
                + " hold act l c s bar part min h");
        for (String word : NO_NAMES) {
            due.wrong("signal !" + word + ";");
            due.wrong("output !" + word + ";");
            due.wrong("step !" + word + " { }");
            due.wrong("ask !" + word + ";");
            due.wrong("repeat !" + word + " { }");
            // what is nearly one of them is a NAME
            due.right("signal " + word + "0; ask " + word + "0;", 1);
            due.right("output z" + word + "; set z" + word + " 1;", 1);
            due.right("step " + word + "x { } do " + word + "x;", 1);
        }
        for (String word : "signa outpu ste se wai unti ram i pa i els repea limi the as d sto hol ac ba par1 mi".split(" ")) {
            due.right("signal " + word + "; ask " + word + ";", 1);
        }
    }
}
