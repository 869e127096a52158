import java.util.function.Supplier;

/** The boundary cases of the promises 12 to 20, sentence by sentence. */
public final class BoundsOfAskingTest {
    private static final Class<IndexOutOfBoundsException> OUT = IndexOutOfBoundsException.class;
    private static final int[] NO_PLACES = {-1, 6, Integer.MIN_VALUE, Integer.MAX_VALUE};
    private static final int[] NO_SPOTS = {-1, 12, Integer.MIN_VALUE, Integer.MAX_VALUE};
    private static final int[] NEVER_DATES = {-2, 41, Integer.MIN_VALUE, Integer.MAX_VALUE};
    private static final String FULL_ZEROS = "000000000000";
    private static final Checks checks = new Checks();

    public static void main(String[] args) {
        lastFromTheFirstToTheFortieth();
        oldestFromTheFirstToTheFortieth();
        isBroken();
        needsFromNoneToSix();
        needsOfABrokenMirror();
        kindAtDates();
        kindAtPlaces();
        kindAtTheLiveTree();
        numberAtDates();
        numberAtPlaces();
        numberAtSpots();
        numberAtSpotsOfAFile();
        numberAtSpotsOfALink();
        numberAtSpotsOfNothing();
        rightsAtDates();
        rightsAtPlaces();
        rightsAtLeastAndGreatest();
        sizeAtDates();
        sizeAtPlaces();
        sizeAtTheLastDate();
        sizeAtWithoutADifference();
        sizeWithoutDifferences();
        sizeWithAllThatIsKept();
        askingChangesNothing();
        checks.end();
    }

    private static void lastFromTheFirstToTheFortieth() {
        checks.sentence("Promise 12, Returns the last date");
        BackMirror mirror = new BackMirror();
        checks.answers("no run", 0, mirror.last());
        for (int date = 1; date <= 40; date++) {
            mirror.makeLink(0, date % 6);
            mirror.run(0);
            checks.answers("behind a broken run", date - 1, mirror.last());
            mirror.run(1);
            checks.answers("behind a run", date, mirror.last());
        }
        checks.isRefused("a run too many", IllegalStateException.class, () -> mirror.run(1));
        checks.answers("behind a refused run", 40, mirror.last());
        mirror.thin(40);
        mirror.restore(40);
        checks.answers("behind thinning and restoring", 40, mirror.last());
    }

    private static void oldestFromTheFirstToTheFortieth() {
        checks.sentence("Promise 13, Returns the oldest date that is kept");
        BackMirror mirror = States.fortyDates();
        checks.answers("not thinned", 0, mirror.oldest());
        checks.isRefused("thinned too much", IllegalArgumentException.class, () -> mirror.thin(41));
        checks.answers("behind a refused call", 0, mirror.oldest());
        for (int date = 1; date <= 40; date++) {
            mirror.thin(1);
            checks.answers("thinned", date, mirror.oldest());
            mirror.restore(date);
            checks.answers("restored", date, mirror.oldest());
        }
        BackMirror run = States.thinned(2);
        run.run(6);
        checks.answers("behind a run", 2, run.oldest());
    }

    private static void isBroken() {
        checks.sentence("Promise 14, Tells whether the mirror is broken");
        checks.holds("a new object is not", !new BackMirror().isBroken());
        for (int steps = 0; steps <= 5; steps++) {
            BackMirror mirror = States.whole();
            mirror.run(steps);
            checks.answers("behind " + steps + " steps of 5", steps < 5 ? 1 : 0, mirror.isBroken() ? 1 : 0);
        }
        BackMirror edited = States.broken(2);
        edited.restore(3);
        checks.holds("restored: not", !edited.isBroken());
        BackMirror back = new BackMirror();
        back.makeFile(0);
        back.run(0);
        back.remove(0);
        checks.holds("broken, also when no step is needed any more", back.isBroken());
        checks.answers("needs", 0, back.needs());
        checks.answers("a run of no step", 1, back.run(0));
        checks.holds("not broken then", !back.isBroken());
    }

    private static void needsFromNoneToSix() {
        checks.sentence("Promise 15, Returns how many steps a run would need now");
        BackMirror mirror = new BackMirror();
        checks.answers("none", 0, mirror.needs());
        for (int place = 5; place >= 0; place--) {
            mirror.makeLink(place, place);
            checks.answers("some", 6 - place, mirror.needs());
        }
        mirror.run(6);
        checks.answers("none behind a run", 0, mirror.needs());
        for (int place = 0; place <= 5; place++) {
            mirror.setRights(place, 1);
            checks.answers("rights", place + 1, mirror.needs());
        }
        mirror.restore(1);
        checks.answers("none behind restoring the last date", 0, mirror.needs());
        mirror.restore(0);
        checks.answers("six behind restoring the date 0", 6, mirror.needs());
    }

    private static void needsOfABrokenMirror() {
        checks.sentence("Promise 15, a broken mirror being mended ahead of it");
        for (int steps = 0; steps <= 4; steps++) {
            BackMirror mirror = States.broken(steps);
            checks.answers("needs behind " + steps, 5, mirror.needs());
            checks.holds("it is broken still", mirror.isBroken());
            checks.answers("its steps are not undone yet", steps, mirror.mend());
        }
        BackMirror back = States.broken(4);
        back.makeLink(States.LINK_TO_ITSELF, 0);
        checks.answers("one more is needed", 6, back.needs());
    }

    /** Refused whatever is kept: no date is so. */
    private static void neverKept(String name, AskedOfDate call) {
        for (int date : NEVER_DATES) {
            checks.isRefusedEverywhere(name + " on " + date, OUT, m -> call.answer(m, date));
        }
    }

    /** Refused just outside of what is kept, with three dates, thinned, broken, and at forty dates. */
    private static void justNotKept(String name, AskedOfDate call) {
        checks.isRefusedUnchanged(name + ", no run", OUT, States::withoutARun, m -> call.answer(m, 1));
        checks.isRefusedUnchanged(name + ", too large", OUT, States::whole, m -> call.answer(m, 4));
        checks.isRefusedUnchanged(name + ", too large, broken", OUT, () -> States.broken(3), m -> call.answer(m, 4));
        for (int oldest = 1; oldest <= 3; oldest++) {
            int thinned = oldest;
            Supplier<BackMirror> made = () -> States.thinned(thinned);
            for (int date = 0; date < oldest; date++) {
                int gone = date;
                checks.isRefusedUnchanged(name + ", forgotten", OUT, made, m -> call.answer(m, gone));
            }
            checks.isRefusedUnchanged(name + ", too large, thinned", OUT, made, m -> call.answer(m, 4));
        }
        checks.isRefusedUnchanged(name + ", forgotten, broken", OUT, () -> States.thinnedAndBroken(2), m -> call.answer(m, 0));
        checks.isRefusedUnchanged(name + ", 39 of 40", OUT, States::lastOfForty, m -> call.answer(m, 39));
        checks.isRefusedUnchanged(name + ", 41 of 40", OUT, States::lastOfForty, m -> call.answer(m, 41));
    }

    private interface AskedOfDate {
        long answer(BackMirror mirror, int date);
    }

    private static void kindAtDates() {
        checks.sentence("Promise 16, date: a date that is kept; if the date is not kept");
        checks.answers("the oldest", 0, States.whole().kindAt(0, 0));
        checks.answers("the last", 2, States.whole().kindAt(3, 4));
        checks.answers("the oldest, thinned", 0, States.thinned(2).kindAt(2, 4));
        checks.answers("the last, thinned", 2, States.thinned(3).kindAt(3, 4));
        checks.answers("the last, broken", 2, States.broken(4).kindAt(3, 5));
        checks.answers("the date 40", 1, States.lastOfForty().kindAt(40, 2));
        neverKept("kindAt", (m, date) -> m.kindAt(date, 0));
        justNotKept("kindAt", (m, date) -> m.kindAt(date, 0));
    }

    private static void kindAtPlaces() {
        checks.sentence("Promise 16, place: 0 to 5; or there is no such place; Returns NOTHING, FILE or LINK");
        BackMirror mirror = States.whole();
        int[] due = {BackMirror.FILE, BackMirror.FILE, BackMirror.NOTHING, BackMirror.FILE, BackMirror.LINK, BackMirror.LINK};
        for (int place = 0; place <= 5; place++) {
            checks.answers("at the place " + place, due[place], mirror.kindAt(3, place));
        }
        for (int place : NO_PLACES) {
            checks.isRefusedEverywhere("kindAt(NONE, " + place + ")", OUT, m -> m.kindAt(-1, place));
            checks.isRefusedEverywhere("kindAt(last, " + place + ")", OUT, m -> m.kindAt(m.last(), place));
            checks.isRefusedEverywhere("kindAt(41, " + place + ")", OUT, m -> m.kindAt(41, place));
        }
    }

    private static void kindAtTheLiveTree() {
        checks.sentence("Promises 16 to 18, or NONE for the live tree");
        for (States.State state : States.ALL) {
            BackMirror mirror = state.made().get();
            checks.answers("kind, " + state.name(), 2, mirror.kindAt(BackMirror.NONE, States.LINK_WITH_RIGHTS));
            checks.answers("number, " + state.name(), 4, mirror.numberAt(BackMirror.NONE, States.FILE_OF_THREE, 2));
            checks.answers("rights, " + state.name(), 7, mirror.rightsAt(BackMirror.NONE, States.LINK_WITH_RIGHTS));
        }
    }

    private static void numberAtDates() {
        checks.sentence("Promise 17, date: a date that is kept; if the date is not kept");
        checks.answers("the oldest", -1, States.whole().numberAt(0, 0, 0));
        checks.answers("the last", 3, States.whole().numberAt(3, 0, 2));
        checks.answers("the oldest, thinned", 4, States.thinned(2).numberAt(2, 0, 3));
        checks.answers("the last, broken", 3, States.broken(4).numberAt(3, 0, 2));
        checks.answers("the date 40", 1, States.lastOfForty().numberAt(40, 3, 11));
        neverKept("numberAt", (m, date) -> m.numberAt(date, 0, 0));
        justNotKept("numberAt", (m, date) -> m.numberAt(date, 0, 0));
    }

    private static void numberAtPlaces() {
        checks.sentence("Promise 17, place: 0 to 5; or there is no such place");
        BackMirror mirror = new BackMirror();
        for (int place = 0; place <= 5; place++) {
            Checks.file(mirror, place, String.valueOf(place + 3));
        }
        mirror.run(6);
        for (int place = 0; place <= 5; place++) {
            checks.answers("at the place " + place, place + 3, mirror.numberAt(1, place, 0));
            checks.answers("at the live place " + place, place + 3, mirror.numberAt(-1, place, 0));
        }
        for (int place : NO_PLACES) {
            checks.isRefusedEverywhere("numberAt(NONE, " + place + ", 0)", OUT, m -> m.numberAt(-1, place, 0));
            checks.isRefusedEverywhere("numberAt(last, " + place + ", 0)", OUT, m -> m.numberAt(m.last(), place, 0));
            checks.isRefusedEverywhere("numberAt(41, " + place + ", 12)", OUT, m -> m.numberAt(41, place, 12));
        }
    }

    private static void numberAtSpots() {
        checks.sentence("Promise 17, spot: 0 to 11; or no such spot");
        for (int spot : NO_SPOTS) {
            for (int place = 0; place <= 5; place++) {
                int at = place;
                checks.isRefusedEverywhere("numberAt(NONE, " + at + ", " + spot + ")", OUT, m -> m.numberAt(-1, at, spot));
                checks.isRefusedEverywhere("numberAt(last, " + at + ", " + spot + ")", OUT,
                        m -> m.numberAt(m.last(), at, spot));
            }
        }
    }

    private static void numberAtSpotsOfAFile() {
        checks.sentence("Promise 17, for a file, a number of it; NONE if there is none at the spot");
        BackMirror mirror = new BackMirror();
        mirror.makeFile(0);
        for (int length = 0; length <= 12; length++) {
            for (int spot = 0; spot <= 11; spot++) {
                int due = spot < length ? (spot + 5) % 10 : BackMirror.NONE;
                checks.answers("spot " + spot + " of " + length, due, mirror.numberAt(-1, 0, spot));
            }
            if (length < 12) {
                mirror.put(0, length, (length + 5) % 10);
            }
        }
        mirror.run(1);
        checks.answers("the first of twelve on a date", 5, mirror.numberAt(1, 0, 0));
        checks.answers("the last of twelve on a date", 6, mirror.numberAt(1, 0, 11));
        mirror.take(0, 11);
        checks.answers("the last, taken", BackMirror.NONE, mirror.numberAt(-1, 0, 11));
        checks.answers("the last, on the date still", 6, mirror.numberAt(1, 0, 11));
    }

    private static void numberAtSpotsOfALink() {
        checks.sentence("Promise 17, for a link, where it leads (at the spot 0)");
        BackMirror mirror = new BackMirror();
        for (int to = 0; to <= 5; to++) {
            mirror.makeLink(5, to);
            checks.answers("at the spot 0", to, mirror.numberAt(-1, 5, 0));
            mirror.run(6);
            checks.answers("at the spot 0 on a date", to, mirror.numberAt(to + 1, 5, 0));
            for (int spot = 1; spot <= 11; spot++) {
                checks.answers("at the spot " + spot, BackMirror.NONE, mirror.numberAt(-1, 5, spot));
                checks.answers("at the spot " + spot + " on a date", BackMirror.NONE, mirror.numberAt(to + 1, 5, spot));
            }
        }
    }

    private static void numberAtSpotsOfNothing() {
        checks.sentence("Promise 17, NONE if there is none at the spot, of nothing");
        BackMirror mirror = States.whole();
        mirror.remove(States.FULL_FILE);
        mirror.remove(States.LINK_WITH_RIGHTS);
        for (int spot = 0; spot <= 11; spot++) {
            checks.answers("where nothing was", BackMirror.NONE, mirror.numberAt(-1, States.NOTHING_THERE, spot));
            checks.answers("where a full file was", BackMirror.NONE, mirror.numberAt(-1, States.FULL_FILE, spot));
            checks.answers("where a link was", BackMirror.NONE, mirror.numberAt(-1, States.LINK_WITH_RIGHTS, spot));
            checks.answers("on the date 0", BackMirror.NONE, mirror.numberAt(0, 0, spot));
        }
    }

    private static void rightsAtDates() {
        checks.sentence("Promise 18, date: a date that is kept; if the date is not kept");
        checks.answers("the oldest", 0, States.whole().rightsAt(0, 0));
        checks.answers("the last", 5, States.whole().rightsAt(3, 0));
        checks.answers("the oldest, thinned", 5, States.thinned(2).rightsAt(2, 0));
        checks.answers("the last, broken", 5, States.broken(4).rightsAt(3, 0));
        checks.answers("the date 40", 6, States.lastOfForty().rightsAt(40, 2));
        neverKept("rightsAt", (m, date) -> m.rightsAt(date, 0));
        justNotKept("rightsAt", (m, date) -> m.rightsAt(date, 0));
    }

    private static void rightsAtPlaces() {
        checks.sentence("Promise 18, place: 0 to 5; or there is no such place");
        BackMirror mirror = new BackMirror();
        for (int place = 0; place <= 5; place++) {
            mirror.makeLink(place, 0);
            mirror.setRights(place, place + 2);
        }
        mirror.run(6);
        for (int place = 0; place <= 5; place++) {
            checks.answers("at the place " + place, place + 2, mirror.rightsAt(1, place));
            checks.answers("at the live place " + place, place + 2, mirror.rightsAt(-1, place));
        }
        for (int place : NO_PLACES) {
            checks.isRefusedEverywhere("rightsAt(NONE, " + place + ")", OUT, m -> m.rightsAt(-1, place));
            checks.isRefusedEverywhere("rightsAt(last, " + place + ")", OUT, m -> m.rightsAt(m.last(), place));
            checks.isRefusedEverywhere("rightsAt(41, " + place + ")", OUT, m -> m.rightsAt(41, place));
        }
    }

    private static void rightsAtLeastAndGreatest() {
        checks.sentence("Promise 18, Returns the rights, 0 to 7");
        BackMirror mirror = new BackMirror();
        mirror.makeFile(0);
        for (int rights = 0; rights <= 7; rights++) {
            mirror.setRights(0, rights);
            mirror.run(6);
            checks.answers("live", rights, mirror.rightsAt(-1, 0));
            checks.answers("on a date", rights, mirror.rightsAt(rights + 1, 0));
        }
        mirror.remove(0);
        mirror.run(6);
        checks.answers("of what was removed", 0, mirror.rightsAt(9, 0));
        checks.answers("of what was removed, live", 0, mirror.rightsAt(-1, 0));
        checks.answers("ahead of the removal", 7, mirror.rightsAt(8, 0));
    }

    private static void sizeAtDates() {
        checks.sentence("Promise 19, date: a date that is kept; if the date is not kept");
        checks.answers("the oldest", 1, States.whole().sizeAt(0, 0));
        checks.answers("the one ahead of the last", 3, States.whole().sizeAt(2, 0));
        checks.answers("the last", 0, States.whole().sizeAt(3, 0));
        checks.answers("the oldest, thinned", 3, States.thinned(2).sizeAt(2, 0));
        checks.answers("the only one", 0, States.thinned(3).sizeAt(3, 0));
        checks.answers("the one ahead of the last, broken", 3, States.broken(4).sizeAt(2, 0));
        neverKept("sizeAt", (m, date) -> m.sizeAt(date, 0));
        justNotKept("sizeAt", (m, date) -> m.sizeAt(date, 0));
        checks.isRefusedEverywhere("sizeAt(NONE, 0)", OUT, m -> m.sizeAt(BackMirror.NONE, 0));
    }

    private static void sizeAtPlaces() {
        checks.sentence("Promise 19, place: 0 to 5; or there is no such place");
        BackMirror mirror = new BackMirror();
        for (int place = 0; place <= 5; place++) {
            Checks.file(mirror, place, "012345".substring(0, place));
        }
        mirror.run(6);
        mirror.restore(0);
        mirror.run(6);
        for (int place = 0; place <= 5; place++) {
            checks.answers("at the place " + place, place + 1, mirror.sizeAt(1, place));
        }
        for (int place : NO_PLACES) {
            checks.isRefusedEverywhere("sizeAt(last, " + place + ")", OUT, m -> m.sizeAt(m.last(), place));
            checks.isRefusedEverywhere("sizeAt(oldest, " + place + ")", OUT, m -> m.sizeAt(m.oldest(), place));
            checks.isRefusedEverywhere("sizeAt(41, " + place + ")", OUT, m -> m.sizeAt(41, place));
        }
    }

    private static void sizeAtTheLastDate() {
        checks.sentence("Promise 19, 0 for the last date");
        BackMirror mirror = new BackMirror();
        for (int date = 0; date <= 40; date++) {
            checks.answers("the last date " + date, 0, mirror.sizeAt(date, 0));
            mirror.makeLink(0, date % 2);
            checks.answers("the last date, the live tree another one", 0, mirror.sizeAt(date, 0));
            if (date < 40) {
                mirror.run(0);
                checks.answers("the last date, broken", 0, mirror.sizeAt(date, 0));
                mirror.run(1);
                checks.answers("the date ahead of the last", 1, mirror.sizeAt(date, 0));
            }
        }
    }

    private static void sizeAtWithoutADifference() {
        checks.sentence("Promise 19, 0 without a difference");
        BackMirror mirror = States.whole();
        mirror.run(6);
        mirror.run(0);
        for (int place = 0; place <= 5; place++) {
            checks.answers("the same thing at " + place, 0, mirror.sizeAt(4, place));
        }
        Checks.file(mirror, 3, "012345678901");
        mirror.setRights(3, 3);
        mirror.run(0);
        checks.answers("the same full file, made again", 0, mirror.sizeAt(5, 3));
        mirror.run(6);
        checks.answers("the date ahead of it", 0, mirror.sizeAt(5, 3));
    }

    private static void sizeWithoutDifferences() {
        checks.sentence("Promise 20, all differences that are kept, which are none");
        checks.answers("a new object", 0, new BackMirror().size());
        checks.answers("without a run", 0, States.withoutARun().size());
        checks.answers("only the last date", 0, States.thinned(3).size());
        checks.answers("only the date 40", 0, States.lastOfForty().size());
        BackMirror mirror = new BackMirror();
        for (int date = 1; date <= 40; date++) {
            mirror.run(0);
        }
        checks.answers("forty dates, all alike", 0, mirror.size());
    }

    private static void makeFull(BackMirror mirror, String digits, int rights) {
        for (int place = 0; place <= 5; place++) {
            Checks.file(mirror, place, digits);
            mirror.setRights(place, rights);
        }
    }

    /** Forty dates of six full files that have no number in common: no difference can take more. */
    private static void sizeWithAllThatIsKept() {
        checks.sentence("Promise 20, what all differences that are kept take, as many and as large as can be");
        BackMirror mirror = new BackMirror();
        makeFull(mirror, FULL_ZEROS, 7);
        mirror.run(6);
        checks.answers("the date 0", 6 * 2, mirror.size());
        makeFull(mirror, FULL_ZEROS.replace('0', '9'), 0);
        mirror.run(6);
        int due = 6 * 2 + 6 * 13;
        checks.answers("the date 1", due, mirror.size());
        for (int date = 3; date <= 40; date++) {
            mirror.restore(date - 2);
            checks.answers("the date " + date, date, mirror.run(6));
            due += 6 * 13;
            checks.answers("all, at the date " + date, due, mirror.size());
        }
        checks.answers("a difference", 13, mirror.sizeAt(39, 5));
        mirror.thin(1);
        checks.answers("without the date 0", 39 * 6 * 13, mirror.size());
        mirror.thin(38);
        checks.answers("the date 39 alone", 6 * 13, mirror.size());
        mirror.thin(1);
        checks.answers("without all", 0, mirror.size());
    }

    private static void askingChangesNothing() {
        checks.sentence("Promises 12 to 20, what is asked changes nothing");
        for (States.State state : States.ALL) {
            BackMirror mirror = state.made().get();
            boolean broken = mirror.isBroken();
            String seen = seen(mirror);
            checks.answers(state.name(), seen, seen(mirror));
            checks.answers(state.name() + ", broken", broken ? 1 : 0, mirror.isBroken() ? 1 : 0);
            checks.answers(state.name() + ", undone", state.made().get().mend(), mirror.mend());
        }
    }

    private static String seen(BackMirror mirror) {
        StringBuilder text = new StringBuilder();
        text.append(mirror.oldest()).append(' ').append(mirror.last()).append(' ').append(mirror.needs());
        text.append(' ').append(mirror.size()).append(Checks.tree(mirror, -1));
        for (int date = mirror.oldest(); date <= mirror.last(); date++) {
            text.append(Checks.tree(mirror, date)).append(mirror.sizeAt(date, 0));
        }
        return text.toString();
    }
}
