import java.util.Random;

/** Many texts of random words: no call throws, and what is written is read as the same program. */
public final class RoundTest {
    private static final Due due = new Due();
    private static final Random random = new Random(20261115);
    private static final String[] WORDS = ("signal output step set wait until ramp in par if else repeat limit then ask"
            + " do stop hold act l c s bar part min h { } ( ) ; + - * / < = > 1 2.50 63 999999999 a b q @ . 5x").split(" ");
    private static final String[] SUMS = {"1", "n", "( n + 2 )", "- n", "n * 2", "3 l / 2 l", "- ( 1 - n )", "n - ( 2 - 1 )"};
    private static final String[] STATEMENTS = {"hold ;", "stop ;", "act # ;", "set q 1.5 l * ( # ) ;", "wait ( # ) * 1 min ;",
        "until # < # ;", "ramp q 1 l in 2 h / ( # ) ;", "ask n ;", "do w ;", "repeat # { @ @ }", "par { @ } { @ } { }",
        "if # = # { @ }", "if # > # { @ } else { @ @ }", "limit # < # { @ } then { @ }"};

    public static void main(String[] args) {
        int right = 0;
        for (int i = 0; i < 3000; i++) {
            String text = i % 3 == 0 ? noise() : program();
            if (i % 3 == 1) {
                text = broken(text);
            }
            right += looksSame(text) ? 1 : 0;
        }
        due.same("enough texts are right", right > 900, true);
        due.end();
    }

    private static String noise() {
        StringBuilder text = new StringBuilder();
        for (int i = random.nextInt(14); i > 0; i--) {
            text.append(WORDS[random.nextInt(WORDS.length)]).append(random.nextInt(4) == 0 ? '\n' : ' ');
        }
        return text.toString();
    }

    private static String program() {
        StringBuilder text = new StringBuilder("signal n ; output q l ; step w { hold ; }\n");
        for (int i = random.nextInt(4); i >= 0; i--) {
            text.append(statement(3)).append('\n');
        }
        return text.toString();
    }

    private static String statement(int deeper) {
        StringBuilder text = new StringBuilder();
        for (char c : STATEMENTS[random.nextInt(deeper > 0 ? STATEMENTS.length : 9)].toCharArray()) {
            if (c == '@') {
                text.append(statement(deeper - 1));
            } else if (c == '#') {
                text.append(text.toString().endsWith("act ") ? "7" : SUMS[random.nextInt(SUMS.length)]);
            } else {
                text.append(c);
            }
        }
        return text.toString();
    }

    private static String broken(String text) {
        int place = random.nextInt(text.length());
        return text.substring(0, place) + (char) (1 + random.nextInt(127)) + text.substring(place + random.nextInt(2));
    }

    private static boolean looksSame(String text) {
        StepText x = new StepText();
        int answer = Due.read(x, text);
        due.same("the place of " + text, answer >= -1 - text.length(), true);
        asksEverything(x);
        if (answer < 0) {
            due.same("no program of " + text, x.what(0), -1);
            return false;
        }
        StepText again = new StepText();
        String written = Due.written(x);
        due.same("statements of " + written, Due.read(again, written), answer);
        due.same("trees of " + written, Due.trees(again), Due.trees(x));
        due.same("remarks of " + written, Due.remarks(again), Due.remarks(x));
        due.same("written of " + written, Due.written(again), written);
        return true;
    }

    private static void asksEverything(StepText x) {
        int[] edges = {Integer.MIN_VALUE, -2, -1, 0, 1, 2, 5, 63, 64, 999, 1000, 4000, 12000, Integer.MAX_VALUE};
        for (int a : edges) {
            x.what(a);
            x.line(a);
            x.unitOf(a);
            x.write(a);
            for (int b : edges) {
                x.child(a, b);
                x.number(a, b);
                x.check(a, b);
                x.branch(a, b);
            }
        }
    }
}
