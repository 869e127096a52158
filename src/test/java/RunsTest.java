import java.util.function.Supplier;

/** Promises 8 to 11: run, mend, thin, restore. */
public final class RunsTest {
    private static final Class<IndexOutOfBoundsException> NOT_KEPT = IndexOutOfBoundsException.class;
    private static final Class<IllegalStateException> STATE = IllegalStateException.class;
    private static final Class<IllegalArgumentException> ARGUMENT = IllegalArgumentException.class;
    private static final Checks checks = new Checks();

    public static void main(String[] args) {
        wholeRuns();
        whatIsAStep();
        brokenRuns();
        runOnABrokenMirror();
        fortyDates();
        runIsRefused();
        mend();
        thin();
        thinIsRefused();
        restore();
        restoreCountsEachKindOfChange();
        restoreOnABrokenMirror();
        restoreIsRefused();
        checks.end();
    }

    private static void wholeRuns() {
        BackMirror mirror = new BackMirror();
        checks.answers("a run without a step", 1, mirror.run(0));
        for (int place = 0; place <= 5; place++) {
            mirror.makeFile(place);
        }
        checks.answers("a run of six steps", 2, mirror.run(6));
        mirror.remove(0);
        mirror.remove(5);
        checks.answers("a run of just as many steps as may be", 3, mirror.run(2));
        checks.answers("another run without a step", 4, mirror.run(6));
        checks.answers("the date 2", " F()0 F()0 F()0 F()0 F()0 F()0", Checks.tree(mirror, 2));
        checks.answers("the date 3", " N()0 F()0 F()0 F()0 F()0 N()0", Checks.tree(mirror, 3));
        checks.answers("the date 4", " N()0 F()0 F()0 F()0 F()0 N()0", Checks.tree(mirror, 4));
        checks.holds("whole", !mirror.isBroken());
    }

    private static void whatIsAStep() {
        BackMirror mirror = onePlaceMirror();
        mirror.setRights(0, 1);
        checks.answers("other rights", -1, mirror.run(0));
        checks.answers("other rights, a step", 2, mirror.run(1));
        mirror.take(0, 0);
        mirror.put(0, 0, 8);
        checks.answers("another number", -1, mirror.run(0));
        checks.answers("another number, a step", 3, mirror.run(1));
        mirror.take(0, 2);
        checks.answers("a shorter row", -1, mirror.run(0));
        mirror.put(0, 2, 3);
        checks.answers("the same row again", 4, mirror.run(0));
        mirror.put(0, 3, 0);
        checks.answers("a longer row", -1, mirror.run(0));
        checks.answers("a longer row, a step", 5, mirror.run(1));
        mirror.makeLink(0, 3);
        checks.answers("another kind, a step", 6, mirror.run(1));
        mirror.makeLink(0, 4);
        checks.answers("a link that leads elsewhere", -1, mirror.run(0));
        checks.answers("a link that leads elsewhere, a step", 7, mirror.run(1));
        mirror.makeLink(0, 4);
        checks.answers("the same link made again", 8, mirror.run(0));
        mirror.remove(0);
        checks.answers("nothing where a link was", -1, mirror.run(0));
        mirror.makeFile(0);
        mirror.run(1);
        mirror.remove(0);
        checks.answers("nothing where an empty file was", -1, mirror.run(0));
    }

    private static BackMirror onePlaceMirror() {
        BackMirror mirror = new BackMirror();
        Checks.file(mirror, 0, "123");
        mirror.run(1);
        return mirror;
    }

    /** At the date 2, with five steps to make. */
    private static BackMirror fiveStepsOff() {
        BackMirror mirror = onePlaceMirror();
        mirror.makeLink(4, 4);
        mirror.run(1);
        mirror.put(0, 0, 4);
        mirror.makeFile(1);
        mirror.makeFile(2);
        mirror.makeFile(3);
        mirror.remove(4);
        return mirror;
    }

    private static void brokenRuns() {
        for (int steps = 0; steps <= 4; steps++) {
            BackMirror mirror = fiveStepsOff();
            String name = "a run broken behind " + steps;
            checks.answers(name, -1, mirror.run(steps));
            checks.answers(name + ": what is seen",
                    "dates 0 to 2, broken, needs 5, size 2\n"
                    + "live F(4,1,2,3)0 F()0 F()0 F()0 N()0 N()0\n"
                    + "date 0 N()0 N()0 N()0 N()0 N()0 N()0 takes 1 0 0 0 0 0\n"
                    + "date 1 F(1,2,3)0 N()0 N()0 N()0 N()0 N()0 takes 0 0 0 0 1 0\n"
                    + "date 2 F(1,2,3)0 N()0 N()0 N()0 L(4)0 N()0 takes 0 0 0 0 0 0\n"
                    + "undone " + steps,
                    Checks.picture(mirror));
            checks.holds(name + ": mended", !mirror.isBroken());
        }
    }

    private static void runOnABrokenMirror() {
        BackMirror mirror = fiveStepsOff();
        mirror.run(4);
        checks.answers("a run that breaks again", -1, mirror.run(1));
        checks.answers("only the last run's steps are undone", 1, mirror.mend());
        mirror.run(4);
        checks.answers("the run needs all steps again", -1, mirror.run(4));
        checks.answers("a whole run", 3, mirror.run(5));
        checks.holds("whole behind it", !mirror.isBroken());
        checks.answers("nothing to undo behind it", 0, mirror.mend());
        checks.answers("the date 3", " F(4,1,2,3)0 F()0 F()0 F()0 N()0 N()0", Checks.tree(mirror, 3));
        mirror.remove(1);
        mirror.run(0);
        mirror.makeFile(1);
        checks.answers("a run without a step on a broken mirror", 4, mirror.run(0));
        checks.answers("the date 2 still", " F(1,2,3)0 N()0 N()0 N()0 L(4)0 N()0", Checks.tree(mirror, 2));
    }

    private static void fortyDates() {
        BackMirror mirror = new BackMirror();
        for (int date = 1; date <= 39; date++) {
            mirror.makeLink(date % 6, date / 7);
            checks.answers("run " + date, date, mirror.run(6));
        }
        mirror.thin(20);
        mirror.makeFile(0);
        checks.answers("a broken run is no date", -1, mirror.run(0));
        checks.answers("run 40", 40, mirror.run(1));
        checks.isRefused("a run too many", STATE, () -> mirror.run(6));
        mirror.makeFile(1);
        checks.isRefused("a run too many that would break", STATE, () -> mirror.run(0));
        checks.isRefused("a run too many, of wrong steps", ARGUMENT, () -> mirror.run(7));
        checks.holds("not broken by it", !mirror.isBroken());
        checks.answers("the last date", 40, mirror.last());
        checks.answers("restore, also then", 2, mirror.restore(39));
        checks.answers("thin, also then", 40, mirror.thin(20));
        checks.isRefused("thinned dates were made, too", STATE, () -> mirror.run(6));
    }

    private static BackMirror broken() {
        BackMirror mirror = fiveStepsOff();
        mirror.run(3);
        return mirror;
    }

    private static void runIsRefused() {
        Supplier<BackMirror> made = RunsTest::broken;
        for (int steps : new int[] {-1, 7, Integer.MIN_VALUE, Integer.MAX_VALUE}) {
            checks.isRefusedUnchanged("run(" + steps + ")", ARGUMENT, made, m -> m.run(steps));
        }
    }

    private static void mend() {
        BackMirror mirror = new BackMirror();
        checks.answers("mend a new mirror", 0, mirror.mend());
        mirror.makeFile(3);
        mirror.run(0);
        checks.answers("mend behind no step", 0, mirror.mend());
        checks.holds("mended", !mirror.isBroken());
        mirror.makeFile(4);
        mirror.run(1);
        mirror.remove(3);
        mirror.remove(4);
        checks.answers("mend, the live tree edited meanwhile", 1, mirror.mend());
        checks.answers("mend once more", 0, mirror.mend());
        checks.answers("the live tree stays", " N()0 N()0 N()0 N()0 N()0 N()0", Checks.tree(mirror, -1));
        checks.answers("mend makes no date", 0, mirror.last());
    }

    private static void thin() {
        BackMirror mirror = new BackMirror();
        for (int date = 1; date <= 40; date++) {
            mirror.makeLink(0, date % 2);
            mirror.run(1);
        }
        checks.answers("thin one", 1, mirror.thin(1));
        checks.isRefused("the date 0 is gone", NOT_KEPT, () -> mirror.kindAt(0, 0));
        checks.answers("the date 1 stays", "L(1)0", Checks.thing(mirror, 1, 0));
        checks.answers("thin many", 30, mirror.thin(29));
        checks.answers("the oldest difference", 1, mirror.sizeAt(30, 0));
        checks.answers("the differences", 10, mirror.size());
        checks.answers("thin all but the last", 40, mirror.thin(10));
        checks.answers("no difference", 0, mirror.size());
        checks.answers("the last date stays", "L(0)0", Checks.thing(mirror, 40, 0));
        BackMirror whole = new BackMirror();
        for (int date = 1; date <= 40; date++) {
            whole.run(0);
        }
        checks.answers("thin forty at once", 40, whole.thin(40));

        BackMirror broken = broken();
        checks.answers("thin a broken mirror", 1, broken.thin(1));
        checks.holds("it is mended first", !broken.isBroken());
        checks.answers("nothing left to undo", 0, broken.mend());
        checks.answers("the live tree stays", " F(4,1,2,3)0 F()0 F()0 F()0 N()0 N()0", Checks.tree(broken, -1));
    }

    private static void thinIsRefused() {
        Supplier<BackMirror> made = RunsTest::broken;
        for (int dates : new int[] {0, -1, 41, Integer.MIN_VALUE, Integer.MAX_VALUE}) {
            checks.isRefusedUnchanged("thin(" + dates + ")", ARGUMENT, made, m -> m.thin(dates));
        }
        for (int dates : new int[] {3, 4, 40}) {
            checks.isRefusedUnchanged("thin(" + dates + ")", STATE, made, m -> m.thin(dates));
        }
        checks.isRefusedUnchanged("thin a new mirror", STATE, BackMirror::new, m -> m.thin(1));
        Supplier<BackMirror> thinned = () -> {
            BackMirror mirror = broken();
            mirror.thin(1);
            mirror.run(3);
            return mirror;
        };
        checks.isRefusedUnchanged("thin what thinning left", STATE, thinned, m -> m.thin(2));
    }

    private static void restore() {
        BackMirror mirror = new BackMirror();
        Checks.file(mirror, 0, "12345");
        mirror.setRights(0, 4);
        mirror.makeLink(1, 0);
        mirror.run(6);
        mirror.take(0, 2);
        mirror.remove(1);
        mirror.run(6);
        mirror.makeLink(0, 2);
        mirror.makeFile(5);
        mirror.run(6);
        checks.answers("restore the last date", 0, mirror.restore(3));
        checks.answers("restore the date 2", 2, mirror.restore(2));
        checks.answers("the date 2", " F(1,2,4,5)4 N()0 N()0 N()0 N()0 N()0", Checks.tree(mirror, -1));
        checks.answers("restore the date 1", 2, mirror.restore(1));
        checks.answers("the date 1", " F(1,2,3,4,5)4 L(0)0 N()0 N()0 N()0 N()0", Checks.tree(mirror, -1));
        checks.answers("restore it again", 0, mirror.restore(1));
        checks.answers("the mirror stays", 3, mirror.last());
        checks.answers("steps to be made", 3, mirror.needs());
        checks.answers("restore the date 0", 2, mirror.restore(0));
        checks.answers("the date 0", " N()0 N()0 N()0 N()0 N()0 N()0", Checks.tree(mirror, -1));
        checks.answers("restore the last date again", 2, mirror.restore(3));
        checks.answers("the date 3", " L(2)0 N()0 N()0 N()0 N()0 F()0", Checks.tree(mirror, -1));
        checks.answers("no step to be made", 0, mirror.needs());
        mirror.restore(1);
        checks.answers("a run of what was restored", 4, mirror.run(3));
        checks.answers("the date 4", " F(1,2,3,4,5)4 L(0)0 N()0 N()0 N()0 N()0", Checks.tree(mirror, 4));
        checks.answers("the date 3 still", " L(2)0 N()0 N()0 N()0 N()0 F()0", Checks.tree(mirror, 3));
        mirror.thin(2);
        checks.answers("restore the oldest", 2, mirror.restore(2));
        checks.answers("the oldest", " F(1,2,4,5)4 N()0 N()0 N()0 N()0 N()0", Checks.tree(mirror, -1));
    }

    private static void restoreCountsEachKindOfChange() {
        BackMirror mirror = onePlaceMirror();
        mirror.setRights(0, 2);
        checks.answers("other rights", 1, mirror.restore(1));
        checks.answers("the rights", 0, mirror.rightsAt(-1, 0));
        mirror.put(0, 3, 4);
        checks.answers("a longer row", 1, mirror.restore(1));
        mirror.take(0, 0);
        checks.answers("a shorter row", 1, mirror.restore(1));
        mirror.take(0, 0);
        mirror.put(0, 0, 1);
        checks.answers("the same row", 0, mirror.restore(1));
        mirror.makeLink(0, 1);
        mirror.makeLink(5, 1);
        checks.answers("other kinds", 2, mirror.restore(1));
    }

    private static void restoreOnABrokenMirror() {
        BackMirror mirror = broken();
        checks.answers("restore on a broken mirror", 5, mirror.restore(2));
        checks.holds("it is mended first", !mirror.isBroken());
        checks.answers("nothing left to undo", 0, mirror.mend());
        checks.answers("the date 2", " F(1,2,3)0 N()0 N()0 N()0 L(4)0 N()0", Checks.tree(mirror, -1));
        checks.answers("no step to be made", 0, mirror.needs());
    }

    private static void restoreIsRefused() {
        Supplier<BackMirror> made = RunsTest::broken;
        for (int date : new int[] {-1, 3, 41, Integer.MIN_VALUE, Integer.MAX_VALUE}) {
            checks.isRefusedUnchanged("restore(" + date + ")", NOT_KEPT, made, m -> m.restore(date));
        }
        Supplier<BackMirror> thinned = () -> {
            BackMirror mirror = broken();
            mirror.thin(2);
            mirror.run(3);
            return mirror;
        };
        checks.isRefusedUnchanged("restore(1) behind thinning", NOT_KEPT, thinned, m -> m.restore(1));
        checks.isRefusedUnchanged("restore(0) behind thinning", NOT_KEPT, thinned, m -> m.restore(0));
    }
}
