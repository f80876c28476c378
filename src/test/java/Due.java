/** What all tests share: texts told to an object, answers compared, the end told by the exit code. */
final class Due {
    private int looked = 0;
    private int wrong = 0;
    private int lookedBefore = 0;
    private String sentence = "";

    /** The sentence of the document that the answers from here on are due by. */
    void by(String words) {
        isLookedAt();
        sentence = words;
    }

    private void isLookedAt() {
        if (!sentence.isEmpty() && looked == lookedBefore) {
            wrong++;
            System.out.println("no answer was looked at by: " + sentence);
        }
        lookedBefore = looked;
    }

    /** A text that is right, and how many statements it has. */
    void right(String text, int statements) {
        same("read of " + text, read(new StepText(), text), statements);
    }

    /** A text that is wrong; the mark ! stands before the first wrong byte. */
    void wrong(String marked) {
        int place = marked.indexOf('!');
        wrongAt(marked.substring(0, place) + marked.substring(place + 1), place);
    }

    void wrongAt(String text, int place) {
        same("read of " + text, read(new StepText(), text), -1 - place);
    }

    void same(String call, long got, long want) {
        same(call, Long.toString(got), Long.toString(want));
    }

    void same(String call, boolean got, boolean want) {
        same(call, Boolean.toString(got), Boolean.toString(want));
    }

    void same(String call, String got, String want) {
        looked++;
        if (!got.equals(want)) {
            wrong++;
            String which = sentence.isEmpty() ? "" : " [" + sentence + "]";
            System.out.println(cut(call) + " answered " + cut(got) + ", due is " + cut(want) + which);
        }
    }

    private static String cut(String text) {
        return text.length() <= 400 ? text : text.substring(0, 200) + " .. " + text.substring(text.length() - 200);
    }

    void end() {
        isLookedAt();
        System.out.println(looked + " answers, " + wrong + " not as due");
        if (wrong != 0 || looked == 0) {
            System.exit(1);
        }
    }

    static void tell(StepText x, String text) {
        for (int i = 0; i < text.length(); i++) {
            x.unit(text.charAt(i));
        }
    }

    static int read(StepText x, String text) {
        tell(x, text);
        return x.read();
    }

    /** A new object that has read a text, which must be right. */
    static StepText program(String text) {
        StepText x = new StepText();
        int statements = read(x, text);
        if (statements < 0) {
            throw new AssertionError("wrong at " + (-1 - statements) + ": " + cut(text));
        }
        return x;
    }

    static String written(StepText x) {
        StringBuilder text = new StringBuilder();
        for (int i = 0; x.write(i) != StepText.NONE; i++) {
            text.append((char) x.write(i));
        }
        return text.toString();
    }

    /** All remarks as "kind of" pairs. */
    static String remarks(StepText x) {
        StringBuilder all = new StringBuilder();
        for (int k = 0; x.check(k, 0) != StepText.NONE; k++) {
            all.append(x.check(k, 0)).append(' ').append(x.check(k, 1)).append(", ");
        }
        return all.toString();
    }

    /** A node and all in it, with its number: "2:2(0:0 1:0)" for a + of two numbers. */
    static String tree(StepText x, int n) {
        StringBuilder text = new StringBuilder();
        text.append(n).append(':').append(x.what(n));
        if (x.number(n, 1) > 0) {
            text.append('(');
            for (int k = 0; k < x.number(n, 1); k++) {
                text.append(k > 0 ? " " : "").append(tree(x, x.child(n, k)));
            }
            text.append(')');
        }
        return text.toString();
    }

    static String trees(StepText x) {
        StringBuilder text = new StringBuilder();
        for (int k = 0; x.child(StepText.NONE, k) != StepText.NONE; k++) {
            text.append(k > 0 ? " " : "").append(tree(x, x.child(StepText.NONE, k)));
        }
        return text.toString();
    }
}
