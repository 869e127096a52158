import java.util.List;
import java.util.function.Supplier;

/**
 * Mirrors in every sort of state, all with the same live tree: a file of three numbers, a link with
 * rights, an empty file, a full one, a link to its own place, and nothing. So a call on the live
 * tree that is refused in one of them is refused in all, and must leave each of them as it was.
 */
final class States {
    record State(String name, Supplier<BackMirror> made) {}

    static final int FILE_OF_THREE = 0;
    static final int LINK_WITH_RIGHTS = 1;
    static final int EMPTY_FILE = 2;
    static final int FULL_FILE = 3;
    static final int LINK_TO_ITSELF = 4;
    static final int NOTHING_THERE = 5;
    static final String LIVE = " F(3,1,4)6 L(5)7 F()0 F(0,1,2,3,4,5,6,7,8,9,0,1)3 L(4)0 N()0";

    static final List<State> ALL = List.of(
            new State("without a run", States::withoutARun),
            new State("with three dates", States::whole),
            new State("broken behind no step", () -> broken(0)),
            new State("broken behind three steps", () -> broken(3)),
            new State("thinned", () -> thinned(1)),
            new State("thinned and broken", () -> thinnedAndBroken(2)),
            new State("thinned to the last date", () -> thinned(3)),
            new State("restored", States::restored),
            new State("at forty dates", States::fortyDates),
            new State("at forty dates, only the last one kept", States::lastOfForty));

    private States() {}

    private static void edit(BackMirror mirror) {
        Checks.file(mirror, FILE_OF_THREE, "314");
        mirror.setRights(FILE_OF_THREE, 6);
        mirror.makeLink(LINK_WITH_RIGHTS, NOTHING_THERE);
        mirror.setRights(LINK_WITH_RIGHTS, 7);
        mirror.makeFile(EMPTY_FILE);
        Checks.file(mirror, FULL_FILE, "012345678901");
        mirror.setRights(FULL_FILE, 3);
        mirror.makeLink(LINK_TO_ITSELF, LINK_TO_ITSELF);
        mirror.remove(NOTHING_THERE);
    }

    static BackMirror withoutARun() {
        BackMirror mirror = new BackMirror();
        edit(mirror);
        return mirror;
    }

    /** The dates 0 to 3, the live tree another one than the last date at five places. */
    static BackMirror whole() {
        BackMirror mirror = new BackMirror();
        Checks.file(mirror, FILE_OF_THREE, "1234");
        mirror.makeLink(NOTHING_THERE, 0);
        mirror.run(6);
        mirror.setRights(FILE_OF_THREE, 5);
        mirror.makeFile(LINK_WITH_RIGHTS);
        Checks.file(mirror, FULL_FILE, "01234");
        mirror.run(6);
        mirror.take(FILE_OF_THREE, 3);
        mirror.makeLink(LINK_TO_ITSELF, LINK_TO_ITSELF);
        mirror.run(6);
        edit(mirror);
        return mirror;
    }

    static BackMirror broken(int steps) {
        BackMirror mirror = whole();
        mirror.run(steps);
        return mirror;
    }

    static BackMirror thinned(int dates) {
        BackMirror mirror = whole();
        mirror.thin(dates);
        return mirror;
    }

    static BackMirror thinnedAndBroken(int steps) {
        BackMirror mirror = thinned(1);
        mirror.run(steps);
        return mirror;
    }

    static BackMirror restored() {
        BackMirror mirror = whole();
        mirror.run(6);
        mirror.remove(FULL_FILE);
        mirror.run(6);
        mirror.restore(4);
        return mirror;
    }

    /** The live tree is another one than the date 40 at one place. */
    static BackMirror fortyDates() {
        BackMirror mirror = whole();
        mirror.run(6);
        for (int date = 5; date <= 40; date++) {
            mirror.setRights(EMPTY_FILE, date % 7 + 1);
            mirror.run(1);
        }
        mirror.setRights(EMPTY_FILE, 0);
        return mirror;
    }

    static BackMirror lastOfForty() {
        BackMirror mirror = fortyDates();
        mirror.thin(40);
        return mirror;
    }
}
