/** Promise 2: bytes that come behind the text, and those that are refused. */
public final class UnitTest {
    public static void main(String[] args) {
        Due due = new Due();
        for (int u : new int[] {Integer.MIN_VALUE, -1, 0, 128, 255, 256 + 'a', Integer.MAX_VALUE}) {
            due.same("unit(" + u + ")", new StepText().unit(u), false);
        }
        for (int u = 1; u <= 127; u++) {
            due.same("unit(" + u + ")", new StepText().unit(u), true);
        }

        StepText refusing = new StepText();
        Due.tell(refusing, "ho");
        refusing.unit(0);
        refusing.unit(128);
        Due.tell(refusing, "ld;");
        due.same("refused bytes are not in the text", refusing.read(), 1);

        StepText full = new StepText();
        for (int i = 0; i < 4000; i++) {
            due.same("byte " + i, full.unit(i < 5 ? "hold;".charAt(i) : ' '), true);
        }
        due.same("byte 4,000", full.unit(' '), false);
        due.same("byte 4,000 again", full.unit('x'), false);
        due.same("the full text", full.read(), 1);
        due.same("a byte behind read", full.unit(' '), true);
        for (int i = 1; i < 4000; i++) {
            full.unit(' ');
        }
        due.same("full again", full.unit(' '), false);
        full.clear();
        due.same("a byte behind clear", full.unit(' '), true);
        due.end();
    }
}
