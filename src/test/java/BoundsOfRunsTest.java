import java.util.function.Supplier;

/** The boundary cases of the promises 8 to 11, sentence by sentence. */
public final class BoundsOfRunsTest {
    private static final Class<IndexOutOfBoundsException> NOT_KEPT = IndexOutOfBoundsException.class;
    private static final Class<IllegalStateException> STATE = IllegalStateException.class;
    private static final Class<IllegalArgumentException> ARGUMENT = IllegalArgumentException.class;
    private static final int[] NO_STEPS = {-1, 7, Integer.MIN_VALUE, Integer.MAX_VALUE};
    private static final int[] NO_COUNT_OF_DATES = {0, 41, -1, Integer.MIN_VALUE, Integer.MAX_VALUE};
    private static final Checks checks = new Checks();

    public static void main(String[] args) {
        runSteps();
        runReturns();
        runUpToFortyDates();
        runCountsThinnedDates();
        runAtFortyDates();
        runThrowsWhatIsNamedFirst();
        mendReturns();
        mendWhatIsNotBroken();
        thinDates();
        thinAllButTheLastDate();
        thinFortyDates();
        thinWhatIsBroken();
        thinThrowsWhatIsNamedFirst();
        restoreDates();
        restoreDatesBehindThinning();
        restoreTheOnlyDate();
        restoreFortyDates();
        restoreReturns();
        restoreWhatIsBroken();
        checks.end();
    }

    /** A new object with empty files at the first places, as many as steps are wanted. */
    private static BackMirror needing(int steps) {
        BackMirror mirror = new BackMirror();
        for (int place = 0; place < steps; place++) {
            mirror.makeFile(place);
        }
        return mirror;
    }

    private static BackMirror withDates(int dates) {
        BackMirror mirror = new BackMirror();
        for (int date = 1; date <= dates; date++) {
            mirror.makeLink(date % 6, date % 5);
            mirror.run(6);
        }
        return mirror;
    }

    private static void runSteps() {
        checks.sentence("Promise 8, steps: 0 to 6; IllegalArgumentException if steps is out of range");
        checks.answers("the least", 1, needing(0).run(0));
        checks.answers("the greatest", 1, needing(6).run(6));
        checks.answers("the least, when all are needed", -1, needing(6).run(0));
        checks.answers("the greatest, when none is needed", 1, needing(0).run(6));
        for (int steps : NO_STEPS) {
            checks.isRefusedEverywhere("run(" + steps + ")", ARGUMENT, m -> m.run(steps));
            checks.isRefusedUnchanged("run(" + steps + ") in a new object", ARGUMENT, BackMirror::new, m -> m.run(steps));
        }
    }

    private static void runReturns() {
        checks.sentence("Promise 8, Returns the date, if the run is whole; NONE if it is broken");
        for (int needed = 0; needed <= 6; needed++) {
            for (int steps = 0; steps <= 6; steps++) {
                BackMirror mirror = needing(needed);
                String name = "run(" + steps + ") of " + needed + " steps";
                checks.answers(name, steps >= needed ? 1 : BackMirror.NONE, mirror.run(steps));
                checks.answers(name + ", broken", steps >= needed ? 0 : 1, mirror.isBroken() ? 1 : 0);
                checks.answers(name + ", last", steps >= needed ? 1 : 0, mirror.last());
            }
        }
    }

    private static void runUpToFortyDates() {
        checks.sentence("Promise 8, IllegalStateException if 40 dates were made, the date 0 not counted");
        BackMirror mirror = new BackMirror();
        for (int date = 1; date <= 40; date++) {
            checks.answers("the run that makes the date " + date, date, mirror.run(0));
        }
        checks.isRefused("the run that would make the date 41", STATE, () -> mirror.run(0));
        checks.answers("last", 40, mirror.last());
        checks.answers("oldest", 0, mirror.oldest());
        BackMirror full = new BackMirror();
        for (int date = 1; date <= 40; date++) {
            for (int place = 0; place <= 5; place++) {
                full.makeLink(place, date % 6);
            }
            checks.answers("the run of six steps that makes the date " + date, date, full.run(6));
        }
        checks.isRefused("the run of six steps that would make the date 41", STATE, () -> full.run(6));
    }

    private static void runCountsThinnedDates() {
        checks.sentence("Promise 8, 40 dates were made, also those that are forgotten");
        BackMirror mirror = withDates(39);
        mirror.thin(39);
        checks.answers("the run that makes the date 40", 40, mirror.run(0));
        mirror.thin(1);
        checks.isRefused("the run that would make the date 41", STATE, () -> mirror.run(0));
        BackMirror broken = withDates(39);
        broken.makeFile(0);
        for (int time = 0; time < 10; time++) {
            checks.answers("a broken run makes no date", -1, broken.run(0));
        }
        checks.answers("the run behind them", 40, broken.run(1));
    }

    private static void runAtFortyDates() {
        checks.sentence("Promise 8, IllegalStateException if 40 dates were made, and nothing changes");
        for (int steps = 0; steps <= 6; steps++) {
            int wanted = steps;
            String name = "run(" + steps + ")";
            checks.isRefusedUnchanged(name + ", no step needed", STATE, () -> withDates(40), m -> m.run(wanted));
            checks.isRefusedUnchanged(name + ", a step needed", STATE, States::fortyDates, m -> m.run(wanted));
            checks.isRefusedUnchanged(name + ", thinned", STATE, States::lastOfForty, m -> m.run(wanted));
            checks.isRefusedUnchanged(name + ", restored", STATE, BoundsOfRunsTest::fortyRestored, m -> m.run(wanted));
        }
    }

    private static BackMirror fortyRestored() {
        BackMirror mirror = withDates(40);
        mirror.restore(1);
        return mirror;
    }

    private static void runThrowsWhatIsNamedFirst() {
        checks.sentence("Promise 8, if several exceptions apply, the one that is named first");
        for (int steps : NO_STEPS) {
            checks.isRefusedUnchanged("run(" + steps + ") at forty dates", ARGUMENT, () -> withDates(40), m -> m.run(steps));
        }
    }

    private static void mendReturns() {
        checks.sentence("Promise 9, Returns how many steps are undone");
        for (int needed = 1; needed <= 6; needed++) {
            for (int steps = 0; steps < needed; steps++) {
                BackMirror mirror = needing(needed);
                mirror.run(steps);
                checks.answers("behind " + steps + " steps of " + needed, steps, mirror.mend());
                checks.holds("mended", !mirror.isBroken());
                checks.answers("mended again", 0, mirror.mend());
                checks.answers("needed then", needed, mirror.needs());
                checks.answers("last", 0, mirror.last());
            }
        }
    }

    private static void mendWhatIsNotBroken() {
        checks.sentence("Promise 9, 0 if it is not broken");
        for (States.State state : States.ALL) {
            BackMirror mirror = state.made().get();
            if (!mirror.isBroken()) {
                String before = Checks.picture(state.made().get());
                checks.answers(state.name(), 0, mirror.mend());
                checks.answers(state.name() + ", what is seen", before, Checks.picture(mirror));
            }
        }
        checks.answers("a new object", 0, new BackMirror().mend());
        BackMirror whole = needing(6);
        whole.run(5);
        whole.run(6);
        checks.answers("behind a whole run that mended", 0, whole.mend());
    }

    private static void thinDates() {
        checks.sentence("Promise 10, dates: 1 to 40: how many dates are forgotten; Returns the oldest date then");
        BackMirror least = withDates(40);
        checks.answers("the least", 1, least.thin(1));
        checks.answers("oldest", 1, least.oldest());
        checks.isRefused("the date 0", NOT_KEPT, () -> least.kindAt(0, 0));
        checks.answers("the date 1", "L(1)0", Checks.thing(least, 1, 1));
        checks.answers("the least again", 2, least.thin(1));
        BackMirror greatest = withDates(40);
        checks.answers("the greatest", 40, greatest.thin(40));
        checks.answers("oldest", 40, greatest.oldest());
        for (int dates : NO_COUNT_OF_DATES) {
            checks.isRefusedEverywhere("thin(" + dates + ")", ARGUMENT, m -> m.thin(dates));
            checks.isRefusedUnchanged("thin(" + dates + ") in a new object", ARGUMENT, BackMirror::new, m -> m.thin(dates));
        }
    }

    private static void thinAllButTheLastDate() {
        checks.sentence("Promise 10, IllegalStateException if the last date would be forgotten");
        for (int last : new int[] {1, 2, 3, 20, 39, 40}) {
            BackMirror mirror = withDates(last);
            String tree = Checks.tree(mirror, last);
            checks.answers("thin to the date " + last, last, mirror.thin(last));
            checks.answers("the last date stays", tree, Checks.tree(mirror, last));
            for (int dates : new int[] {1, 2, 39, 40}) {
                checks.isRefused("thin(" + dates + ") of one date", STATE, () -> mirror.thin(dates));
            }
            checks.answers("oldest", last, mirror.oldest());
            if (last < 40) {
                Supplier<BackMirror> made = () -> withDates(last);
                checks.isRefusedUnchanged("thin one too many of " + last, STATE, made, m -> m.thin(last + 1));
                checks.isRefusedUnchanged("thin forty of " + last, STATE, made, m -> m.thin(40));
            }
        }
        checks.isRefusedUnchanged("thin(1) in a new object", STATE, BackMirror::new, m -> m.thin(1));
        checks.isRefusedUnchanged("thin(40) in a new object", STATE, BackMirror::new, m -> m.thin(40));
        checks.isRefusedUnchanged("broken, thin(4) of four", STATE, () -> States.broken(3), m -> m.thin(4));
        checks.isRefusedUnchanged("broken behind none, thin(4)", STATE, () -> States.broken(0), m -> m.thin(4));
        checks.isRefusedUnchanged("thinned, thin(3) of three", STATE, () -> States.thinned(1), m -> m.thin(3));
        checks.isRefusedUnchanged("thinned and broken", STATE, () -> States.thinnedAndBroken(2), m -> m.thin(3));
        checks.isRefusedUnchanged("only the date 40", STATE, States::lastOfForty, m -> m.thin(1));
        checks.answers("thinned, thin(2) of three", 3, States.thinned(1).thin(2));
    }

    private static void thinFortyDates() {
        checks.sentence("Promise 10, from the oldest date on");
        BackMirror mirror = withDates(40);
        for (int oldest = 1; oldest <= 40; oldest++) {
            int gone = oldest - 1;
            checks.answers("thin(1)", oldest, mirror.thin(1));
            checks.isRefused("the date " + gone, NOT_KEPT, () -> mirror.restore(gone));
            checks.answers("the oldest's link", oldest % 5, mirror.numberAt(oldest, oldest % 6, 0));
        }
        checks.isRefused("the last one", STATE, () -> mirror.thin(1));
    }

    private static void thinWhatIsBroken() {
        checks.sentence("Promise 10, a broken mirror is mended first");
        for (int steps = 0; steps <= 4; steps++) {
            BackMirror mirror = States.broken(steps);
            checks.holds("broken behind " + steps, mirror.isBroken());
            checks.answers("thin(3)", 3, mirror.thin(3));
            checks.holds("mended", !mirror.isBroken());
            checks.answers("no step is left to undo", 0, mirror.mend());
            checks.answers("needed then", 5, mirror.needs());
            checks.answers("the live tree stays", States.LIVE, Checks.tree(mirror, -1));
            checks.answers("the last date stays", Checks.tree(States.whole(), 3), Checks.tree(mirror, 3));
        }
    }

    private static void thinThrowsWhatIsNamedFirst() {
        checks.sentence("Promise 10, if several exceptions apply, the one that is named first");
        checks.isRefusedUnchanged("thin(41) in a new object", ARGUMENT, BackMirror::new, m -> m.thin(41));
        checks.isRefusedUnchanged("thin(41) of the last date", ARGUMENT, States::lastOfForty, m -> m.thin(41));
        checks.isRefusedUnchanged("thin(41), broken", ARGUMENT, () -> States.broken(3), m -> m.thin(41));
        checks.isRefusedUnchanged("thin(the greatest int)", ARGUMENT, States::lastOfForty, m -> m.thin(Integer.MAX_VALUE));
        checks.isRefusedUnchanged("thin(0) of the last date", ARGUMENT, States::lastOfForty, m -> m.thin(0));
    }

    private static void restoreDates() {
        checks.sentence("Promise 11, date: a date that is kept; IndexOutOfBoundsException if it is not kept");
        for (int date : new int[] {0, 1, 2, 3}) {
            BackMirror mirror = States.whole();
            mirror.restore(date);
            checks.answers("the live tree", Checks.tree(States.whole(), date), Checks.tree(mirror, -1));
        }
        for (int date : new int[] {-1, -2, 41, Integer.MIN_VALUE, Integer.MAX_VALUE}) {
            checks.isRefusedEverywhere("restore(" + date + ")", NOT_KEPT, m -> m.restore(date));
        }
        checks.isRefusedUnchanged("restore NONE", NOT_KEPT, States::whole, m -> m.restore(BackMirror.NONE));
        checks.isRefusedUnchanged("restore one beyond the last", NOT_KEPT, States::whole, m -> m.restore(4));
        checks.isRefusedUnchanged("broken, one beyond the last", NOT_KEPT, () -> States.broken(3), m -> m.restore(4));
        checks.isRefusedUnchanged("without a run, one beyond", NOT_KEPT, States::withoutARun, m -> m.restore(1));
    }

    private static void restoreDatesBehindThinning() {
        checks.sentence("Promise 11, a date that is kept, behind thinning");
        for (int oldest = 1; oldest <= 3; oldest++) {
            int thinned = oldest;
            Supplier<BackMirror> made = () -> States.thinned(thinned);
            BackMirror mirror = made.get();
            mirror.restore(oldest);
            checks.answers("the oldest", Checks.tree(States.whole(), oldest), Checks.tree(mirror, -1));
            for (int date = -1; date < oldest; date++) {
                int gone = date;
                checks.isRefusedUnchanged("restore(" + date + ")", NOT_KEPT, made, m -> m.restore(gone));
            }
            checks.isRefusedUnchanged("restore(4)", NOT_KEPT, made, m -> m.restore(4));
        }
        Supplier<BackMirror> broken = () -> States.thinnedAndBroken(2);
        checks.isRefusedUnchanged("broken, the newest that is forgotten", NOT_KEPT, broken, m -> m.restore(0));
    }

    private static void restoreTheOnlyDate() {
        checks.sentence("Promise 11, a date that is kept, the only one");
        BackMirror first = States.withoutARun();
        checks.answers("the date 0", 5, first.restore(0));
        checks.answers("the live tree", " N()0 N()0 N()0 N()0 N()0 N()0", Checks.tree(first, -1));
        BackMirror last = States.lastOfForty();
        checks.answers("the date 40", 1, last.restore(40));
        checks.answers("the live tree", Checks.tree(last, 40), Checks.tree(last, -1));
        checks.isRefusedUnchanged("the date 39", NOT_KEPT, States::lastOfForty, m -> m.restore(39));
        checks.isRefusedUnchanged("the date 41", NOT_KEPT, States::lastOfForty, m -> m.restore(41));
    }

    private static void restoreFortyDates() {
        checks.sentence("Promise 11, Brings the live tree to a date, along forty differences");
        BackMirror mirror = withDates(40);
        String[] trees = new String[41];
        for (int date = 0; date <= 40; date++) {
            trees[date] = Checks.tree(mirror, date);
        }
        for (int date = 40; date >= 0; date--) {
            mirror.restore(40 - date);
            mirror.restore(date);
            checks.answers("the live tree of " + date, trees[date], Checks.tree(mirror, -1));
        }
        checks.answers("last", 40, mirror.last());
        for (int date = 0; date <= 40; date++) {
            checks.answers("the date " + date + " stays", trees[date], Checks.tree(mirror, date));
        }
    }

    private static void restoreReturns() {
        checks.sentence("Promise 11, Returns at how many places the live tree is another one than before");
        for (int changed = 0; changed <= 6; changed++) {
            checks.answers("places", changed, needing(changed).restore(0));
            BackMirror back = needing(changed);
            back.run(6);
            back.restore(0);
            checks.answers("places, the other way", changed, back.restore(1));
            checks.answers("the same date again", 0, back.restore(1));
        }
        BackMirror mirror = new BackMirror();
        Checks.file(mirror, 0, "123456789012");
        mirror.run(1);
        mirror.take(0, 11);
        mirror.put(0, 11, 3);
        checks.answers("the last number of twelve is another one", 1, mirror.restore(1));
        checks.answers("the last number", 2, mirror.numberAt(-1, 0, 11));
        mirror.makeFile(0);
        checks.answers("an empty file where a full one was", 1, mirror.restore(1));
        mirror.makeLink(1, 1);
        mirror.run(1);
        mirror.makeFile(1);
        mirror.put(1, 0, 1);
        checks.answers("a file of the number that a link leads to", 1, mirror.restore(2));
    }

    private static void restoreWhatIsBroken() {
        checks.sentence("Promise 11, a broken mirror is mended first");
        for (int steps = 0; steps <= 4; steps++) {
            for (int date = 0; date <= 3; date++) {
                BackMirror mirror = States.broken(steps);
                checks.holds("broken behind " + steps, mirror.isBroken());
                mirror.restore(date);
                checks.holds("mended", !mirror.isBroken());
                checks.answers("no step is left to undo", 0, mirror.mend());
                checks.answers("the live tree", Checks.tree(States.whole(), date), Checks.tree(mirror, -1));
                checks.answers("last", 3, mirror.last());
            }
        }
    }
}
