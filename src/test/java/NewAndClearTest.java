/** Promises 1 and 13: a new object, and one that was cleared. */
public final class NewAndClearTest {
    private static final Due due = new Due();

    public static void main(String[] args) {
        isAsAtFirst("new", new StepText());

        StepText x = Due.program("signal a; act 5; stop; hold;");
        x.bar(0);
        x.bar(5);
        x.bar(63);
        Due.tell(x, "hold; ");
        due.same("written before clear", x.write(0), 's');
        x.clear();
        isAsAtFirst("cleared", x);

        StepText twice = Due.program("hold;");
        twice.clear();
        twice.clear();
        due.same("read after clear", Due.read(twice, "act 5; hold;"), 2);
        due.same("written after clear", Due.written(twice), "act 5 ;\nhold ;\n");
        due.end();
    }

    private static void isAsAtFirst(String which, StepText x) {
        due.same(which + " what(0)", x.what(0), -1);
        due.same(which + " child(-1, 0)", x.child(-1, 0), -1);
        due.same(which + " child(0, 0)", x.child(0, 0), -1);
        due.same(which + " line(0)", x.line(0), -1);
        due.same(which + " number(0, 0)", x.number(0, 0), -1);
        due.same(which + " number(0, 1)", x.number(0, 1), -1);
        due.same(which + " unitOf(0)", x.unitOf(0), -1);
        due.same(which + " branch(0, 0)", x.branch(0, 0), -1);
        due.same(which + " check(0, 0)", x.check(0, 0), -1);
        due.same(which + " check(0, 1)", x.check(0, 1), -1);
        due.same(which + " write(0)", x.write(0), -1);
        due.same(which + " read() of nothing", x.read(), 0);
        due.same(which + " read() of acts", Due.read(x, "act 0; act 5; act 63;"), 3);
        due.same(which + " no act is barred", x.check(0, 0), -1);
        due.same(which + " bar(5) is new", x.bar(5), true);
    }
}
