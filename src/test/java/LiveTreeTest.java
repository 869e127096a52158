import java.util.function.Supplier;

/** Promises 1 to 7: a new object, and the calls that edit the live tree. */
public final class LiveTreeTest {
    private static final Class<IndexOutOfBoundsException> NO_PLACE = IndexOutOfBoundsException.class;
    private static final Class<IllegalStateException> STATE = IllegalStateException.class;
    private static final Class<IllegalArgumentException> ARGUMENT = IllegalArgumentException.class;
    private static final int[] NO_PLACES = {-1, 6, Integer.MIN_VALUE, Integer.MAX_VALUE};
    private static final Checks checks = new Checks();

    public static void main(String[] args) {
        newObject();
        makeFile();
        makeLink();
        remove();
        put();
        putIsRefused();
        take();
        takeIsRefused();
        setRights();
        setRightsIsRefused();
        datesDoNotFollowTheLiveTree();
        checks.end();
    }

    private static void newObject() {
        checks.answers("a new object",
                "dates 0 to 0, whole, needs 0, size 0\n"
                + "live N()0 N()0 N()0 N()0 N()0 N()0\n"
                + "date 0 N()0 N()0 N()0 N()0 N()0 N()0 takes 0 0 0 0 0 0\n"
                + "undone 0",
                Checks.picture(new BackMirror()));
        BackMirror one = new BackMirror();
        one.makeFile(0);
        checks.answers("kind in another object", 0, new BackMirror().kindAt(-1, 0));
    }

    /** A file, a link with rights, an empty file, a full file; a date of it; then an edit. */
    private static BackMirror mixed() {
        BackMirror mirror = new BackMirror();
        Checks.file(mirror, 0, "314");
        mirror.setRights(0, 6);
        mirror.makeLink(1, 5);
        mirror.setRights(1, 7);
        mirror.makeFile(2);
        Checks.file(mirror, 3, "012345678901");
        mirror.run(6);
        mirror.take(0, 0);
        return mirror;
    }

    private static void makeFile() {
        BackMirror mirror = mixed();
        checks.answers("makeFile over nothing", 0, mirror.makeFile(5));
        checks.answers("a new file", "F()0", Checks.thing(mirror, -1, 5));
        checks.answers("makeFile over a file", 1, mirror.makeFile(0));
        checks.answers("a file made new", "F()0", Checks.thing(mirror, -1, 0));
        checks.answers("makeFile over a link", 2, mirror.makeFile(1));
        checks.answers("a file where a link was", "F()0", Checks.thing(mirror, -1, 1));
        for (int place : NO_PLACES) {
            checks.isRefusedUnchanged("makeFile(" + place + ")", NO_PLACE, LiveTreeTest::mixed, m -> m.makeFile(place));
        }
    }

    private static void makeLink() {
        BackMirror mirror = mixed();
        checks.answers("makeLink over nothing", 0, mirror.makeLink(5, 0));
        checks.answers("a new link", "L(0)0", Checks.thing(mirror, -1, 5));
        checks.answers("makeLink over a file", 1, mirror.makeLink(0, 0));
        checks.answers("a link to its own place", "L(0)0", Checks.thing(mirror, -1, 0));
        checks.answers("makeLink over a link", 2, mirror.makeLink(1, 4));
        checks.answers("a link made new", "L(4)0", Checks.thing(mirror, -1, 1));
        for (int place : NO_PLACES) {
            checks.isRefusedUnchanged("makeLink(" + place + ", 0)", NO_PLACE, LiveTreeTest::mixed, m -> m.makeLink(place, 0));
            checks.isRefusedUnchanged("makeLink(0, " + place + ")", NO_PLACE, LiveTreeTest::mixed, m -> m.makeLink(0, place));
        }
    }

    private static void remove() {
        BackMirror mirror = mixed();
        checks.answers("remove nothing", 0, mirror.remove(5));
        checks.answers("remove a file", 1, mirror.remove(0));
        checks.answers("remove a link", 2, mirror.remove(1));
        checks.answers("remove it again", 0, mirror.remove(1));
        checks.answers("what is left", " N()0 N()0 F()0 F(0,1,2,3,4,5,6,7,8,9,0,1)0 N()0 N()0", Checks.tree(mirror, -1));
        for (int place : NO_PLACES) {
            checks.isRefusedUnchanged("remove(" + place + ")", NO_PLACE, LiveTreeTest::mixed, m -> m.remove(place));
        }
    }

    private static void put() {
        BackMirror mirror = mixed();
        checks.answers("put into an empty file", 1, mirror.put(2, 0, 9));
        checks.answers("put ahead of all", 2, mirror.put(2, 0, 0));
        checks.answers("put behind all", 3, mirror.put(2, 2, 5));
        checks.answers("put between", 4, mirror.put(2, 1, 7));
        checks.answers("the file", "F(0,7,9,5)0", Checks.thing(mirror, -1, 2));
        checks.answers("put with rights", 3, mirror.put(0, 1, 8));
        checks.answers("the rights stay", "F(1,8,4)6", Checks.thing(mirror, -1, 0));
        for (int length = 5; length <= 12; length++) {
            checks.answers("put up to the end", length, mirror.put(2, 0, 1));
        }
        checks.answers("the full file", "F(1,1,1,1,1,1,1,1,0,7,9,5)0", Checks.thing(mirror, -1, 2));
    }

    private static void putIsRefused() {
        Supplier<BackMirror> made = LiveTreeTest::mixed;
        for (int place : NO_PLACES) {
            checks.isRefusedUnchanged("put(" + place + ", 0, 0)", NO_PLACE, made, m -> m.put(place, 0, 0));
            checks.isRefusedUnchanged("put(" + place + ", -1, 10)", NO_PLACE, made, m -> m.put(place, -1, 10));
        }
        checks.isRefusedUnchanged("put into a link", STATE, made, m -> m.put(1, 0, 0));
        checks.isRefusedUnchanged("put into nothing", STATE, made, m -> m.put(5, 0, 0));
        checks.isRefusedUnchanged("put into a full file", STATE, made, m -> m.put(3, 0, 0));
        checks.isRefusedUnchanged("put into nothing, with a wrong spot", STATE, made, m -> m.put(5, -1, 0));
        checks.isRefusedUnchanged("put into a link, with a wrong number", STATE, made, m -> m.put(1, 0, 10));
        checks.isRefusedUnchanged("put into a full file, with a wrong spot", STATE, made, m -> m.put(3, 13, 0));
        checks.isRefusedUnchanged("put into a full file, with a wrong number", STATE, made, m -> m.put(3, 0, -1));
        for (int spot : new int[] {-1, 3, Integer.MIN_VALUE, Integer.MAX_VALUE}) {
            checks.isRefusedUnchanged("put(0, " + spot + ", 0)", ARGUMENT, made, m -> m.put(0, spot, 0));
        }
        for (int number : new int[] {-1, 10, Integer.MIN_VALUE, Integer.MAX_VALUE}) {
            checks.isRefusedUnchanged("put(0, 0, " + number + ")", ARGUMENT, made, m -> m.put(0, 0, number));
        }
    }

    private static void take() {
        BackMirror mirror = mixed();
        checks.answers("take the last", 1, mirror.take(3, 11));
        checks.answers("take the first", 0, mirror.take(3, 0));
        checks.answers("take between", 5, mirror.take(3, 4));
        checks.answers("the file", "F(1,2,3,4,6,7,8,9,0)0", Checks.thing(mirror, -1, 3));
        checks.answers("take with rights", 4, mirror.take(0, 1));
        checks.answers("take the only one", 1, mirror.take(0, 0));
        checks.answers("the rights stay", "F()6", Checks.thing(mirror, -1, 0));
    }

    private static void takeIsRefused() {
        Supplier<BackMirror> made = LiveTreeTest::mixed;
        for (int place : NO_PLACES) {
            checks.isRefusedUnchanged("take(" + place + ", 0)", NO_PLACE, made, m -> m.take(place, 0));
            checks.isRefusedUnchanged("take(" + place + ", -1)", NO_PLACE, made, m -> m.take(place, -1));
        }
        checks.isRefusedUnchanged("take from a link", STATE, made, m -> m.take(1, 0));
        checks.isRefusedUnchanged("take from nothing", STATE, made, m -> m.take(5, 0));
        checks.isRefusedUnchanged("take from a link, with a wrong spot", STATE, made, m -> m.take(1, 1));
        checks.isRefusedUnchanged("take from nothing, with a wrong spot", STATE, made, m -> m.take(5, -1));
        checks.isRefusedUnchanged("take from an empty file", ARGUMENT, made, m -> m.take(2, 0));
        checks.isRefusedUnchanged("take behind a full file", ARGUMENT, made, m -> m.take(3, 12));
        for (int spot : new int[] {-1, 2, Integer.MIN_VALUE, Integer.MAX_VALUE}) {
            checks.isRefusedUnchanged("take(0, " + spot + ")", ARGUMENT, made, m -> m.take(0, spot));
        }
    }

    private static void setRights() {
        BackMirror mirror = mixed();
        checks.answers("rights of a file", 6, mirror.setRights(0, 0));
        checks.answers("rights of a file, again", 0, mirror.setRights(0, 7));
        checks.answers("the numbers stay", "F(1,4)7", Checks.thing(mirror, -1, 0));
        checks.answers("rights of a link", 7, mirror.setRights(1, 7));
        checks.answers("rights of a link, again", 7, mirror.setRights(1, 1));
        checks.answers("where it leads stays", "L(5)1", Checks.thing(mirror, -1, 1));
    }

    private static void setRightsIsRefused() {
        Supplier<BackMirror> made = LiveTreeTest::mixed;
        for (int place : NO_PLACES) {
            checks.isRefusedUnchanged("setRights(" + place + ", 0)", NO_PLACE, made, m -> m.setRights(place, 0));
            checks.isRefusedUnchanged("setRights(" + place + ", 8)", NO_PLACE, made, m -> m.setRights(place, 8));
        }
        checks.isRefusedUnchanged("rights of nothing", STATE, made, m -> m.setRights(5, 0));
        checks.isRefusedUnchanged("wrong rights of nothing", STATE, made, m -> m.setRights(5, 8));
        for (int rights : new int[] {-1, 8, Integer.MIN_VALUE, Integer.MAX_VALUE}) {
            checks.isRefusedUnchanged("setRights(0, " + rights + ")", ARGUMENT, made, m -> m.setRights(0, rights));
        }
    }

    private static void datesDoNotFollowTheLiveTree() {
        BackMirror mirror = mixed();
        mirror.put(0, 0, 9);
        mirror.setRights(0, 1);
        mirror.makeLink(1, 0);
        mirror.put(2, 0, 2);
        mirror.remove(3);
        mirror.makeFile(4);
        checks.answers("the date 1", " F(3,1,4)6 L(5)7 F()0 F(0,1,2,3,4,5,6,7,8,9,0,1)0 N()0 N()0", Checks.tree(mirror, 1));
        mirror.restore(1);
        mirror.take(0, 0);
        mirror.setRights(1, 0);
        checks.answers("the date 1 behind a restore", " F(3,1,4)6 L(5)7 F()0 F(0,1,2,3,4,5,6,7,8,9,0,1)0 N()0 N()0", Checks.tree(mirror, 1));
    }
}
