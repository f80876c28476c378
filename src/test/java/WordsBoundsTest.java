/** The boundaries that the document names under BYTES and WORDS: a method for each sentence. */
public final class WordsBoundsTest {
    private static final Due due = new Due();

    public static void main(String[] args) {
        usedForAtMost512Calls();
        atMost4000Bytes();
        bytes1To127();
        only32And10AreBlanks();
        each10BeginsALine();
        aWordBeginsWithALetter();
        lettersAndDigitsFollow();
        atMost12Together();
        oneToNineDigits();
        perhapsAPoint();
        oneToThreeDecimals();
        oneOfTheSigns();
        directlyBehindIsWrong();
        beforeItIsLookedWhetherItCanStand();
        due.end();
    }

    private static void usedForAtMost512Calls() {
        due.by("An object is used for at most 512 calls after it has been made");
        StepText x = new StepText();
        int calls = 0;
        for (; calls < 506; calls++) {
            x.unit(calls < 500 ? '\n' : "hold; ".charAt(calls - 500));
        }
        due.same("call 507", x.read(), 1);
        due.same("call 508", x.what(0), 21);
        due.same("call 509", x.bar(63), true);
        due.same("call 510", x.unit('x'), true);
        due.same("call 511", x.line(0), 501);
        due.same("call 512", x.write(6), '\n');

        StepText reading = new StepText();
        for (calls = 0; calls < 510; calls += 2) {
            reading.unit('@');
            due.same("a wrong text in call " + (calls + 2), reading.read(), -1);
        }
        reading.unit(' ');
        due.same("a right one in call 512", reading.read(), 0);
    }

    private static void atMost4000Bytes() {
        due.by("BYTES: a text has at most 4,000");
        due.right(" ".repeat(3995) + "hold;", 1);
        due.right("hold;" + " ".repeat(3995), 1);
        due.right("hold;".repeat(800), 800);
        due.wrongAt(" ".repeat(3996) + "hold", 4000);
        due.wrongAt(" ".repeat(3999) + ";", 3999);
        // 4,000 words of a byte each
        due.wrongAt(";".repeat(4000), 0);
        due.wrongAt("hold;" + "(".repeat(3995), 5);
        // the ; would be byte 4,001
        due.wrongAt(" ".repeat(3996) + "hold;", 4000);
    }

    private static void bytes1To127() {
        due.by("BYTES: .. 1 .. 127");
        for (int u = -200; u <= 400; u++) {
            due.same("unit(" + u + ")", new StepText().unit(u), u >= 1 && u <= 127);
        }
        due.same("unit of the least", new StepText().unit(Integer.MIN_VALUE), false);
        due.same("unit of the greatest", new StepText().unit(Integer.MAX_VALUE), false);
        due.same("unit of 'a' in the lowest byte", new StepText().unit(0x10000 + 'a'), false);
        due.wrongAt("hold;\u0001", 5);
        due.wrongAt("hold;\u007f", 5);
    }

    private static void only32And10AreBlanks() {
        due.by("BYTES: .. 32 and 10 are blanks");
        for (int c = 1; c <= 127; c++) {
            String text = "hold" + (char) c + ";";
            if (c == 32 || c == 10) {
                due.right(text, 1);
                due.right((char) c + "hold;" + (char) c + (char) c + "stop;" + (char) c, 2);
            } else if (isLetter(c) || isDigit(c)) {
                due.wrongAt(text, 0);
            } else {
                due.wrongAt(text, c == ';' ? 5 : 4);
            }
        }
    }

    private static void each10BeginsALine() {
        due.by("BYTES: .. each 10 begins a line (the first line is 1)");
        lines("hold;", 1);
        lines("\nhold;", 2);
        lines("\n\n\nhold;", 4);
        lines(" \n \n hold;", 3);
        lines("hold\n;", 1);
        lines("hold;\nhold;hold;\n\nhold;", 1, 2, 2, 4);
        lines("\n".repeat(3995) + "hold;", 3996);
        StepText x = Due.program("\n\nhold;");
        Due.read(x, "hold;");
        due.same("each text begins at line 1", x.line(0), 1);
    }

    private static void lines(String text, int... wanted) {
        StepText x = Due.program(text);
        for (int n = 0; n < wanted.length; n++) {
            due.same("line(" + n + ") of " + text, x.line(n), wanted[n]);
        }
    }

    private static void aWordBeginsWithALetter() {
        due.by("WORDS: a letter a to z");
        for (int c = 1; c <= 127; c++) {
            String text = "signal " + (char) c + ";";
            if (isLetter(c) && "lcsh".indexOf(c) < 0) {
                due.right(text, 0);
            } else {
                due.wrongAt(text, c == ' ' || c == '\n' ? 8 : 7);
            }
        }
    }

    private static void lettersAndDigitsFollow() {
        due.by("WORDS: .. then letters and digits");
        for (int c = 1; c <= 127; c++) {
            String text = "signal a" + (char) c + "z9;";
            if (isLetter(c) || isDigit(c)) {
                due.right(text, 0);
                due.right(text + "ask a" + (char) c + "z9;", 1);
            } else {
                due.wrongAt(text, c == ' ' || c == '\n' || c == ';' ? 9 : 8);
            }
        }
        due.right("signal a0123456789;", 0);
        due.right("signal zzzzzzzzzzzz; signal azazaz; signal z00000000000;", 0);
    }

    private static void atMost12Together() {
        due.by("WORDS: .. at most 12 together");
        due.right("signal b; ask b;", 1);
        due.right("signal abcdefghijkl; ask abcdefghijkl;", 1);
        due.right("signal a12345678901; ask a12345678901;", 1);
        due.wrong("signal abcdefghijkl!m;");
        due.wrong("signal abcdefghijkl!1;");
        due.wrong("signal a12345678901!2;");
        due.wrong("signal a12345678901!b;");
        due.wrong("abcdefghijkl!mnopqrstuvwxyz;");
        // the twelfth still tells two NAMES apart, and so does how many there are
        due.right("signal abcdefghijkl; signal abcdefghijkm; signal abcdefghijk; ask abcdefghijkm;", 1);
        StepText x = Due.program("signal bbbbbbbbbbbb; signal bbbbbbbbbbb; signal bbbbbbbbbbbz; signal zbbbbbbbbbbb;"
                + "ask bbbbbbbbbbbb; ask bbbbbbbbbbb; ask bbbbbbbbbbbz; ask zbbbbbbbbbbb;");
        for (int n = 0; n < 4; n++) {
            due.same("the NAME of ask " + n, x.number(n, 0), n);
        }
    }

    private static void oneToNineDigits() {
        due.by("WORDS: .. a number: 1 to 9 digits");
        value("0", 0);
        value("9", 9_000);
        value("10", 10_000);
        value("123456789", 123_456_789_000L);
        value("999999999", 999_999_999_000L);
        value("000000000", 0);
        value("000000001", 1_000);
        due.wrong("repeat 123456789!0 { }");
        due.wrong("repeat 000000000!0 { }");
        due.wrong("repeat 123456789!0.5 { }");
        due.wrong("repeat !.5 { }");
        due.wrong("act 000000000!1;");
    }

    private static void perhapsAPoint() {
        due.by("WORDS: .. then perhaps a point");
        value("5", 5_000);
        value("5.5", 5_500);
        value("123456789.5", 123_456_789_500L);
        due.wrong("repeat 5!.");
        due.wrong("repeat 5!. { }");
        due.wrong("repeat 5!.{ }");
        due.wrong("repeat 5!. 5 { }");
        due.wrong("repeat 5!.. { }");
        due.wrong("repeat 5!..5 { }");
        due.wrong("repeat 5!.x { }");
        due.wrong("repeat 5!.-1 { }");
        due.wrong("repeat 123456789!. { }");
        due.wrong("repeat 5 !.5 { }");
        due.wrong("repeat 5.5!.5 { }");
        due.wrong("repeat 5!,5 { }");
    }

    private static void oneToThreeDecimals() {
        due.by("WORDS: .. and 1 to 3 digits");
        value("5.1", 5_100);
        value("5.12", 5_120);
        value("5.123", 5_123);
        value("0.001", 1);
        value("0.01", 10);
        value("0.000", 0);
        value("0.999", 999);
        value("999999999.999", 999_999_999_999L);
        due.wrong("repeat 5.123!4 { }");
        due.wrong("repeat 5.000!0 { }");
        due.wrong("repeat 123456789.123!4 { }");
        due.wrong("repeat 5.123!. { }");
    }

    private static void value(String number, long want) {
        due.same("the value of " + number, Due.program("repeat " + number + "{ }").number(0, 0), want);
    }

    private static void oneOfTheSigns() {
        due.by("WORDS: .. one of { } ( ) ; + - * / < = >");
        due.right("signal a;if-a*(2+1)/3<4{until 1=2;}else{until 3>1-2;}", 3);
        // each sign is a word by itself, whatever stands directly behind it
        due.wrong("hold;!;");
        due.wrong("if 1<!<2{}");
        due.wrong("if 1<!=2{}");
        due.wrong("if 1=!=2{}");
        due.wrong("repeat 1{}!}");
        due.wrong("repeat 1+!+2{}");
        due.wrong("repeat 1*!*2{}");
        due.wrong("repeat 1/!/2{}");
        due.right("repeat 1--2{}", 1);
        for (int c = 1; c <= 127; c++) {
            if (!isLetter(c) && !isDigit(c) && c != ' ' && c != '\n' && "{}();+-*/<=>".indexOf(c) < 0) {
                due.wrongAt("repeat 1 " + (char) c + " 1{}", 9);
                due.wrongAt("hold;" + (char) c, 5);
            }
        }
    }

    private static void directlyBehindIsWrong() {
        due.by("WORDS: .. A letter or digit, or a point, directly behind a word of letters or a number that takes it"
                + " in no more is wrong at its place (5. at the point)");
        due.wrong("wait 5!s;");
        due.wrong("wait 5.5!s;");
        due.wrong("wait 5!min;");
        due.wrong("wait 123456789!s;");
        due.wrong("wait 1.123!s;");
        due.wrong("wait 123456789!1 s;");
        due.wrong("wait 1.123!1 s;");
        due.wrong("hold!.;");
        due.wrong("hold!.5;");
        due.wrong("signal abcdefghijkl!.;");
        due.wrong("signal abcdefghijkl!m;");
        due.wrong("signal abcdefghijkl!0;");
        due.wrong("wait 5!.");
        for (int c = 1; c <= 127; c++) {
            if (isLetter(c) || isDigit(c) || c == '.') {
                due.wrongAt("wait 123456789" + (char) c + ";", 14);
                due.wrongAt("wait 1.123" + (char) c + ";", 10);
                due.wrongAt("ask abcdefghijkl" + (char) c + ";", 16);
            }
            if (isLetter(c)) {
                due.wrongAt("wait 1" + (char) c + ";", 6);
                due.wrongAt("wait 1.1" + (char) c + ";", 8);
            }
        }
        // behind a blank or a sign they begin a word of their own
        due.wrong("wait 5 s !s;");
        due.wrong("wait 5 s !5;");
        due.wrong("hold !.;");
        due.wrong("signal abcdefghijkl !m;");
        due.right("repeat 1{hold;}hold;", 3);
        due.right("wait(5)*1 s;", 1);
    }

    private static void beforeItIsLookedWhetherItCanStand() {
        due.by("WORDS: .. as the word is read: before it is looked whether that can stand there");
        // 5, hold and x could not stand there, but what is directly behind them is told
        due.wrong("5!x");
        due.wrong("5!.");
        due.wrong("hold 5!x;");
        due.wrong("hold hold!.");
        due.wrong("signal 1.234!5;");
        due.wrong("ask x!.;");
        due.wrong("abcdefghijkl!m");
        due.wrong("act 64!x;");
        due.wrong("act 5 5!x;");
        due.wrong("signal a; signal a!.;");
        due.wrong("output q l; set q 1 abcdefghijkl!m;");
        // but the word before is looked at before that one is read
        due.wrong("!} 5x");
        due.wrong("hold !} 5x");
        due.wrong("ask !x 5x");
        due.wrong("act !64 5x");
        due.wrong("signal !hold 5x");
    }

    private static boolean isLetter(int c) {
        return c >= 'a' && c <= 'z';
    }

    private static boolean isDigit(int c) {
        return c >= '0' && c <= '9';
    }
}
