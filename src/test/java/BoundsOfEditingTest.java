import java.util.function.Supplier;

/** The boundary cases of the promises 1 to 7, sentence by sentence. */
public final class BoundsOfEditingTest {
    private static final Class<IndexOutOfBoundsException> NO_PLACE = IndexOutOfBoundsException.class;
    private static final Class<IllegalStateException> STATE = IllegalStateException.class;
    private static final Class<IllegalArgumentException> ARGUMENT = IllegalArgumentException.class;
    private static final int[] NO_PLACES = {-1, 6, Integer.MIN_VALUE, Integer.MAX_VALUE};
    private static final int[] NO_RIGHTS = {-1, 8, Integer.MIN_VALUE, Integer.MAX_VALUE};
    private static final int[] NO_NUMBERS = {-1, 10, Integer.MIN_VALUE, Integer.MAX_VALUE};
    private static final Checks checks = new Checks();

    public static void main(String[] args) {
        newObject();
        statesAreAsTheySay();
        makeFilePlaces();
        makeFileMakesItEmpty();
        makeLinkPlaces();
        makeLinkTo();
        makeLinkToTheSamePlace();
        makeLinkMakesTheRightsZero();
        removePlaces();
        removeWhatIsThere();
        putPlaces();
        putSpots();
        putSpotsOfAnEmptyFile();
        putSpotsOfAFileOfEleven();
        putNumbers();
        putIntoAFullFile();
        putWhereNoFileIs();
        putThrowsWhatIsNamedFirst();
        takePlaces();
        takeSpots();
        takeFromAFileOfOne();
        takeFromAnEmptyFile();
        takeFromAFullFile();
        takeWhereNoFileIs();
        takeThrowsWhatIsNamedFirst();
        setRightsPlaces();
        setRightsRights();
        setRightsOfNothing();
        setRightsThrowsWhatIsNamedFirst();
        checks.end();
    }

    private static void newObject() {
        checks.sentence("Promise 1, The live tree and the mirror have nothing; the date 0");
        BackMirror mirror = new BackMirror();
        checks.answers("the live tree", " N()0 N()0 N()0 N()0 N()0 N()0", Checks.tree(mirror, -1));
        checks.answers("the date 0", " N()0 N()0 N()0 N()0 N()0 N()0", Checks.tree(mirror, 0));
        checks.answers("last", 0, mirror.last());
        checks.answers("oldest", 0, mirror.oldest());
        checks.holds("not broken", !mirror.isBroken());
        checks.answers("needs", 0, mirror.needs());
        checks.answers("size", 0, mirror.size());
        checks.answers("mend", 0, mirror.mend());
    }

    /** The refused calls of all these tests lean on it. */
    private static void statesAreAsTheySay() {
        checks.sentence("the states that refused calls are tried in");
        int broken = 0;
        int lastOnly = 0;
        for (States.State state : States.ALL) {
            BackMirror mirror = state.made().get();
            checks.answers(state.name(), States.LIVE, Checks.tree(mirror, -1));
            checks.holds(state.name() + ", needs a step", mirror.needs() > 0);
            broken += mirror.isBroken() ? 1 : 0;
            lastOnly += mirror.oldest() == mirror.last() ? 1 : 0;
        }
        checks.answers("broken ones", 3, broken);
        checks.answers("with one date", 3, lastOnly);
        String[] dates = {
            " N()0 N()0 N()0 N()0 N()0 N()0",
            " F(1,2,3,4)0 N()0 N()0 N()0 N()0 L(0)0",
            " F(1,2,3,4)5 F()0 N()0 F(0,1,2,3,4)0 N()0 L(0)0",
            " F(1,2,3)5 F()0 N()0 F(0,1,2,3,4)0 L(4)0 L(0)0",
        };
        for (int date = 0; date < dates.length; date++) {
            checks.answers("the date " + date, dates[date], Checks.tree(States.whole(), date));
        }
        checks.answers("forty dates", 40, States.fortyDates().last());
        checks.answers("forty dates, thinned", 40, States.lastOfForty().oldest());
    }

    private static void makeFilePlaces() {
        checks.sentence("Promise 2, place: 0 to 5; no such place");
        BackMirror mirror = new BackMirror();
        checks.answers("the least", 0, mirror.makeFile(0));
        checks.answers("the tree", " F()0 N()0 N()0 N()0 N()0 N()0", Checks.tree(mirror, -1));
        checks.answers("the greatest", 0, mirror.makeFile(5));
        checks.answers("the tree", " F()0 N()0 N()0 N()0 N()0 F()0", Checks.tree(mirror, -1));
        for (int place : NO_PLACES) {
            checks.isRefusedEverywhere("makeFile(" + place + ")", NO_PLACE, m -> m.makeFile(place));
        }
    }

    private static void makeFileMakesItEmpty() {
        checks.sentence("Promise 2, an empty file, with the rights 0, whatever was there; the kind that it had");
        BackMirror mirror = States.whole();
        checks.answers("over a full file", 1, mirror.makeFile(States.FULL_FILE));
        checks.answers("over an empty file", 1, mirror.makeFile(States.EMPTY_FILE));
        checks.answers("over a file with rights", 1, mirror.makeFile(States.FILE_OF_THREE));
        checks.answers("over a link with rights", 2, mirror.makeFile(States.LINK_WITH_RIGHTS));
        checks.answers("over a link to itself", 2, mirror.makeFile(States.LINK_TO_ITSELF));
        checks.answers("over nothing", 0, mirror.makeFile(States.NOTHING_THERE));
        checks.answers("the tree", " F()0 F()0 F()0 F()0 F()0 F()0", Checks.tree(mirror, -1));
    }

    private static void makeLinkPlaces() {
        checks.sentence("Promise 3, place: 0 to 5; no such place");
        BackMirror mirror = new BackMirror();
        checks.answers("the least", 0, mirror.makeLink(0, 3));
        checks.answers("the tree", " L(3)0 N()0 N()0 N()0 N()0 N()0", Checks.tree(mirror, -1));
        checks.answers("the greatest", 0, mirror.makeLink(5, 3));
        checks.answers("the tree", " L(3)0 N()0 N()0 N()0 N()0 L(3)0", Checks.tree(mirror, -1));
        for (int place : NO_PLACES) {
            checks.isRefusedEverywhere("makeLink(" + place + ", 0)", NO_PLACE, m -> m.makeLink(place, 0));
        }
    }

    private static void makeLinkTo() {
        checks.sentence("Promise 3, to: 0 to 5; no such place, of either");
        BackMirror mirror = new BackMirror();
        checks.answers("the least", 0, mirror.makeLink(2, 0));
        checks.answers("where it leads", 0, mirror.numberAt(-1, 2, 0));
        checks.answers("the greatest", 2, mirror.makeLink(2, 5));
        checks.answers("where it leads", 5, mirror.numberAt(-1, 2, 0));
        for (int to : NO_PLACES) {
            checks.isRefusedEverywhere("makeLink(0, " + to + ")", NO_PLACE, m -> m.makeLink(0, to));
            checks.isRefusedEverywhere("makeLink(" + to + ", " + to + ")", NO_PLACE, m -> m.makeLink(to, to));
        }
    }

    private static void makeLinkToTheSamePlace() {
        checks.sentence("Promise 3, to: also the same place");
        BackMirror mirror = new BackMirror();
        for (int place = 0; place <= 5; place++) {
            checks.answers("a link to " + place, 0, mirror.makeLink(place, place));
        }
        checks.answers("the tree", " L(0)0 L(1)0 L(2)0 L(3)0 L(4)0 L(5)0", Checks.tree(mirror, -1));
    }

    private static void makeLinkMakesTheRightsZero() {
        checks.sentence("Promise 3, a link, with the rights 0, whatever was there; the kind that it had");
        BackMirror mirror = States.whole();
        checks.answers("over a full file", 1, mirror.makeLink(States.FULL_FILE, 1));
        checks.answers("over an empty file", 1, mirror.makeLink(States.EMPTY_FILE, 1));
        checks.answers("over a file with rights", 1, mirror.makeLink(States.FILE_OF_THREE, 1));
        checks.answers("over a link with rights", 2, mirror.makeLink(States.LINK_WITH_RIGHTS, 5));
        checks.answers("over a link to itself", 2, mirror.makeLink(States.LINK_TO_ITSELF, 1));
        checks.answers("over nothing", 0, mirror.makeLink(States.NOTHING_THERE, 1));
        checks.answers("the tree", " L(1)0 L(5)0 L(1)0 L(1)0 L(1)0 L(1)0", Checks.tree(mirror, -1));
    }

    private static void removePlaces() {
        checks.sentence("Promise 4, place: 0 to 5; no such place");
        BackMirror mirror = new BackMirror();
        for (int place = 0; place <= 5; place++) {
            mirror.makeLink(place, 0);
        }
        checks.answers("the least", 2, mirror.remove(0));
        checks.answers("the greatest", 2, mirror.remove(5));
        checks.answers("the tree", " N()0 L(0)0 L(0)0 L(0)0 L(0)0 N()0", Checks.tree(mirror, -1));
        for (int place : NO_PLACES) {
            checks.isRefusedEverywhere("remove(" + place + ")", NO_PLACE, m -> m.remove(place));
        }
    }

    private static void removeWhatIsThere() {
        checks.sentence("Promise 4, Removes what is at a place; the kind that it had");
        BackMirror mirror = States.whole();
        checks.answers("a full file", 1, mirror.remove(States.FULL_FILE));
        checks.answers("an empty file", 1, mirror.remove(States.EMPTY_FILE));
        checks.answers("a file with rights", 1, mirror.remove(States.FILE_OF_THREE));
        checks.answers("a link with rights", 2, mirror.remove(States.LINK_WITH_RIGHTS));
        checks.answers("a link to itself", 2, mirror.remove(States.LINK_TO_ITSELF));
        checks.answers("nothing", 0, mirror.remove(States.NOTHING_THERE));
        checks.answers("the tree", " N()0 N()0 N()0 N()0 N()0 N()0", Checks.tree(mirror, -1));
        checks.answers("what a link leads to is not removed with it", 1, States.whole().kindAt(-1, States.FULL_FILE));
    }

    private static void putPlaces() {
        checks.sentence("Promise 5, place: 0 to 5; no such place");
        BackMirror mirror = new BackMirror();
        mirror.makeFile(0);
        mirror.makeFile(5);
        checks.answers("the least", 1, mirror.put(0, 0, 4));
        checks.answers("the greatest", 1, mirror.put(5, 0, 6));
        checks.answers("the tree", " F(4)0 N()0 N()0 N()0 N()0 F(6)0", Checks.tree(mirror, -1));
        for (int place : NO_PLACES) {
            checks.isRefusedEverywhere("put(" + place + ", 0, 0)", NO_PLACE, m -> m.put(place, 0, 0));
        }
    }

    private static void putSpots() {
        checks.sentence("Promise 5, spot: 0 to the length of the file, ahead of the one that is at a spot, or behind all");
        String[] due = {"F(8,3,1,4)6", "F(3,8,1,4)6", "F(3,1,8,4)6", "F(3,1,4,8)6"};
        for (int spot = 0; spot < due.length; spot++) {
            BackMirror mirror = States.whole();
            checks.answers("at the spot " + spot, 4, mirror.put(States.FILE_OF_THREE, spot, 8));
            checks.answers("at the spot " + spot, due[spot], Checks.thing(mirror, -1, States.FILE_OF_THREE));
        }
        for (int spot : new int[] {-1, 4, 11, 12, Integer.MIN_VALUE, Integer.MAX_VALUE}) {
            checks.isRefusedEverywhere("put at the spot " + spot + " of three", ARGUMENT,
                    m -> m.put(States.FILE_OF_THREE, spot, 0));
        }
    }

    private static void putSpotsOfAnEmptyFile() {
        checks.sentence("Promise 5, spot: 0 to the length of the file, which is 0");
        BackMirror mirror = States.whole();
        checks.answers("at the only spot", 1, mirror.put(States.EMPTY_FILE, 0, 9));
        checks.answers("the file", "F(9)0", Checks.thing(mirror, -1, States.EMPTY_FILE));
        for (int spot : new int[] {-1, 1, Integer.MIN_VALUE, Integer.MAX_VALUE}) {
            checks.isRefusedEverywhere("put at the spot " + spot + " of none", ARGUMENT,
                    m -> m.put(States.EMPTY_FILE, spot, 0));
        }
    }

    private static BackMirror fileOfEleven() {
        BackMirror mirror = new BackMirror();
        Checks.file(mirror, 0, "12345678901");
        return mirror;
    }

    private static void putSpotsOfAFileOfEleven() {
        checks.sentence("Promise 5, spot: 0 to the length of the file, which is 11; Returns the length then");
        BackMirror behind = fileOfEleven();
        checks.answers("behind all", 12, behind.put(0, 11, 7));
        checks.answers("the file", "F(1,2,3,4,5,6,7,8,9,0,1,7)0", Checks.thing(behind, -1, 0));
        BackMirror ahead = fileOfEleven();
        checks.answers("ahead of all", 12, ahead.put(0, 0, 7));
        checks.answers("the file", "F(7,1,2,3,4,5,6,7,8,9,0,1)0", Checks.thing(ahead, -1, 0));
        BackMirror between = fileOfEleven();
        checks.answers("ahead of the last", 12, between.put(0, 10, 7));
        checks.answers("the file", "F(1,2,3,4,5,6,7,8,9,0,7,1)0", Checks.thing(between, -1, 0));
        Supplier<BackMirror> made = BoundsOfEditingTest::fileOfEleven;
        checks.isRefusedUnchanged("put at the spot 12", ARGUMENT, made, m -> m.put(0, 12, 0));
        checks.isRefusedUnchanged("put at the spot -1", ARGUMENT, made, m -> m.put(0, -1, 0));
    }

    private static void putNumbers() {
        checks.sentence("Promise 5, number: 0 to 9");
        BackMirror mirror = new BackMirror();
        mirror.makeFile(1);
        for (int number = 0; number <= 9; number++) {
            checks.answers("put " + number, number + 1, mirror.put(1, number, number));
        }
        checks.answers("the file", "F(0,1,2,3,4,5,6,7,8,9)0", Checks.thing(mirror, -1, 1));
        for (int number : NO_NUMBERS) {
            checks.isRefusedEverywhere("put the number " + number, ARGUMENT,
                    m -> m.put(States.FILE_OF_THREE, 0, number));
            checks.isRefusedEverywhere("put the number " + number + " into an empty file", ARGUMENT,
                    m -> m.put(States.EMPTY_FILE, 0, number));
        }
    }

    private static void putIntoAFullFile() {
        checks.sentence("Promise 5, IllegalStateException if it has 12 numbers");
        for (int spot = 0; spot <= 12; spot++) {
            int at = spot;
            checks.isRefusedEverywhere("put at the spot " + at, STATE, m -> m.put(States.FULL_FILE, at, 5));
        }
        BackMirror mirror = States.whole();
        mirror.take(States.FULL_FILE, 6);
        checks.answers("put when one was taken", 12, mirror.put(States.FULL_FILE, 11, 5));
        checks.isRefused("put when it is full again", STATE, () -> mirror.put(States.FULL_FILE, 11, 5));
        checks.answers("the file", "F(0,1,2,3,4,5,7,8,9,0,1,5)3", Checks.thing(mirror, -1, States.FULL_FILE));
    }

    private static void putWhereNoFileIs() {
        checks.sentence("Promise 5, IllegalStateException if there is no file");
        checks.isRefusedEverywhere("put into a link", STATE, m -> m.put(States.LINK_WITH_RIGHTS, 0, 0));
        checks.isRefusedEverywhere("put into a link, behind", STATE, m -> m.put(States.LINK_WITH_RIGHTS, 1, 0));
        checks.isRefusedEverywhere("put into a link to itself", STATE, m -> m.put(States.LINK_TO_ITSELF, 0, 0));
        checks.isRefusedEverywhere("put into nothing", STATE, m -> m.put(States.NOTHING_THERE, 0, 0));
        BackMirror mirror = States.whole();
        mirror.remove(States.FILE_OF_THREE);
        checks.isRefused("put into a file that was removed", STATE, () -> mirror.put(States.FILE_OF_THREE, 0, 0));
    }

    private static void putThrowsWhatIsNamedFirst() {
        checks.sentence("Promise 5, if several exceptions apply, the one that is named first");
        for (int place : NO_PLACES) {
            checks.isRefusedEverywhere("no place, no spot", NO_PLACE, m -> m.put(place, -1, 0));
            checks.isRefusedEverywhere("no place, no number", NO_PLACE, m -> m.put(place, 0, 10));
        }
        int[] wrongStates = {States.LINK_WITH_RIGHTS, States.FULL_FILE, States.LINK_TO_ITSELF, States.NOTHING_THERE};
        for (int place : wrongStates) {
            checks.isRefusedEverywhere("at " + place + ", spot too small", STATE, m -> m.put(place, -1, 0));
            checks.isRefusedEverywhere("at " + place + ", spot too large", STATE, m -> m.put(place, 13, 0));
            checks.isRefusedEverywhere("at " + place + ", number too small", STATE, m -> m.put(place, 0, -1));
            checks.isRefusedEverywhere("at " + place + ", number too large", STATE, m -> m.put(place, 0, 10));
            checks.isRefusedEverywhere("at " + place + ", both wrong", STATE, m -> m.put(place, -1, 10));
        }
        checks.isRefusedEverywhere("a file, both wrong", ARGUMENT, m -> m.put(States.FILE_OF_THREE, 4, -1));
    }

    private static void takePlaces() {
        checks.sentence("Promise 6, place: 0 to 5; no such place");
        BackMirror mirror = new BackMirror();
        Checks.file(mirror, 0, "12");
        Checks.file(mirror, 5, "34");
        checks.answers("the least", 1, mirror.take(0, 0));
        checks.answers("the greatest", 3, mirror.take(5, 0));
        checks.answers("the tree", " F(2)0 N()0 N()0 N()0 N()0 F(4)0", Checks.tree(mirror, -1));
        for (int place : NO_PLACES) {
            checks.isRefusedEverywhere("take(" + place + ", 0)", NO_PLACE, m -> m.take(place, 0));
        }
    }

    private static void takeSpots() {
        checks.sentence("Promise 6, spot: 0 to the length of the file, less 1; Returns the number");
        int[] numbers = {3, 1, 4};
        String[] due = {"F(1,4)6", "F(3,4)6", "F(3,1)6"};
        for (int spot = 0; spot < due.length; spot++) {
            BackMirror mirror = States.whole();
            checks.answers("at the spot " + spot, numbers[spot], mirror.take(States.FILE_OF_THREE, spot));
            checks.answers("at the spot " + spot, due[spot], Checks.thing(mirror, -1, States.FILE_OF_THREE));
        }
        for (int spot : new int[] {-1, 3, 4, 11, 12, Integer.MIN_VALUE, Integer.MAX_VALUE}) {
            checks.isRefusedEverywhere("take at the spot " + spot + " of three", ARGUMENT,
                    m -> m.take(States.FILE_OF_THREE, spot));
        }
    }

    private static void takeFromAFileOfOne() {
        checks.sentence("Promise 6, spot: 0 to the length of the file, less 1, which is 0");
        Supplier<BackMirror> made = () -> {
            BackMirror mirror = new BackMirror();
            Checks.file(mirror, 2, "0");
            return mirror;
        };
        checks.isRefusedUnchanged("take at the spot 1", ARGUMENT, made, m -> m.take(2, 1));
        checks.isRefusedUnchanged("take at the spot -1", ARGUMENT, made, m -> m.take(2, -1));
        BackMirror mirror = made.get();
        checks.answers("take at the spot 0", 0, mirror.take(2, 0));
        checks.answers("an empty file is left", "F()0", Checks.thing(mirror, -1, 2));
        checks.isRefused("take when it is empty", ARGUMENT, () -> mirror.take(2, 0));
    }

    private static void takeFromAnEmptyFile() {
        checks.sentence("Promise 6, IllegalArgumentException if spot is out of range, of an empty file");
        for (int spot : new int[] {0, -1, 1, Integer.MIN_VALUE, Integer.MAX_VALUE}) {
            checks.isRefusedEverywhere("take at the spot " + spot + " of none", ARGUMENT,
                    m -> m.take(States.EMPTY_FILE, spot));
        }
    }

    private static void takeFromAFullFile() {
        checks.sentence("Promise 6, spot: 0 to the length of the file, less 1, which is 11");
        checks.isRefusedEverywhere("take at the spot 12 of twelve", ARGUMENT, m -> m.take(States.FULL_FILE, 12));
        checks.isRefusedEverywhere("take at the spot -1 of twelve", ARGUMENT, m -> m.take(States.FULL_FILE, -1));
        BackMirror mirror = States.whole();
        checks.answers("take at the spot 11", 1, mirror.take(States.FULL_FILE, 11));
        checks.isRefused("take at the spot 11 of eleven", ARGUMENT, () -> mirror.take(States.FULL_FILE, 11));
        for (int number = 0; number <= 9; number++) {
            checks.answers("take at the spot 0", number, mirror.take(States.FULL_FILE, 0));
        }
        checks.answers("take the last one", 0, mirror.take(States.FULL_FILE, 0));
        checks.answers("an empty file is left", "F()3", Checks.thing(mirror, -1, States.FULL_FILE));
    }

    private static void takeWhereNoFileIs() {
        checks.sentence("Promise 6, IllegalStateException if there is no file");
        checks.isRefusedEverywhere("take from a link", STATE, m -> m.take(States.LINK_WITH_RIGHTS, 0));
        checks.isRefusedEverywhere("take from a link to itself", STATE, m -> m.take(States.LINK_TO_ITSELF, 0));
        checks.isRefusedEverywhere("take from nothing", STATE, m -> m.take(States.NOTHING_THERE, 0));
        BackMirror mirror = States.whole();
        mirror.remove(States.FILE_OF_THREE);
        checks.isRefused("take from a file that was removed", STATE, () -> mirror.take(States.FILE_OF_THREE, 0));
    }

    private static void takeThrowsWhatIsNamedFirst() {
        checks.sentence("Promise 6, if several exceptions apply, the one that is named first");
        for (int place : NO_PLACES) {
            checks.isRefusedEverywhere("no place, no spot", NO_PLACE, m -> m.take(place, -1));
            checks.isRefusedEverywhere("no place, a spot too large", NO_PLACE, m -> m.take(place, 12));
        }
        for (int place : new int[] {States.LINK_WITH_RIGHTS, States.LINK_TO_ITSELF, States.NOTHING_THERE}) {
            checks.isRefusedEverywhere("at " + place + ", spot too small", STATE, m -> m.take(place, -1));
            checks.isRefusedEverywhere("at " + place + ", spot too large", STATE, m -> m.take(place, 1));
            checks.isRefusedEverywhere("at " + place + ", spot far off", STATE, m -> m.take(place, Integer.MAX_VALUE));
        }
    }

    private static void setRightsPlaces() {
        checks.sentence("Promise 7, place: 0 to 5; no such place");
        BackMirror mirror = new BackMirror();
        mirror.makeFile(0);
        mirror.makeLink(5, 1);
        checks.answers("the least", 0, mirror.setRights(0, 2));
        checks.answers("the greatest", 0, mirror.setRights(5, 3));
        checks.answers("the tree", " F()2 N()0 N()0 N()0 N()0 L(1)3", Checks.tree(mirror, -1));
        for (int place : NO_PLACES) {
            checks.isRefusedEverywhere("setRights(" + place + ", 0)", NO_PLACE, m -> m.setRights(place, 0));
        }
    }

    private static void setRightsRights() {
        checks.sentence("Promise 7, rights: 0 to 7; Returns the rights before");
        int[] places = {States.FILE_OF_THREE, States.LINK_WITH_RIGHTS, States.EMPTY_FILE, States.FULL_FILE};
        int[] before = {6, 7, 0, 3};
        for (int i = 0; i < places.length; i++) {
            BackMirror mirror = States.whole();
            checks.answers("the least, at " + places[i], before[i], mirror.setRights(places[i], 0));
            checks.answers("they are set", 0, mirror.rightsAt(-1, places[i]));
            for (int rights = 1; rights <= 7; rights++) {
                checks.answers("before " + rights, rights - 1, mirror.setRights(places[i], rights));
            }
            checks.answers("the greatest are set", 7, mirror.rightsAt(-1, places[i]));
            checks.answers("the same ones again", 7, mirror.setRights(places[i], 7));
        }
        for (int rights : NO_RIGHTS) {
            for (int place : places) {
                checks.isRefusedEverywhere("setRights(" + place + ", " + rights + ")", ARGUMENT,
                        m -> m.setRights(place, rights));
            }
        }
    }

    private static void setRightsOfNothing() {
        checks.sentence("Promise 7, IllegalStateException if there is nothing");
        for (int rights = 0; rights <= 7; rights++) {
            int wanted = rights;
            checks.isRefusedEverywhere("rights " + wanted, STATE, m -> m.setRights(States.NOTHING_THERE, wanted));
        }
        checks.isRefusedUnchanged("rights in a new object", STATE, BackMirror::new, m -> m.setRights(0, 0));
        BackMirror mirror = States.whole();
        mirror.remove(States.LINK_WITH_RIGHTS);
        checks.isRefused("rights of what was removed", STATE, () -> mirror.setRights(States.LINK_WITH_RIGHTS, 7));
    }

    private static void setRightsThrowsWhatIsNamedFirst() {
        checks.sentence("Promise 7, if several exceptions apply, the one that is named first");
        for (int place : NO_PLACES) {
            checks.isRefusedEverywhere("no place, no rights", NO_PLACE, m -> m.setRights(place, 8));
        }
        for (int rights : NO_RIGHTS) {
            checks.isRefusedEverywhere("nothing, no rights", STATE, m -> m.setRights(States.NOTHING_THERE, rights));
        }
    }
}
