import java.util.function.Supplier;

/** Promises 12 to 20: what can be asked. */
public final class WhatThereIsTest {
    private static final Class<IndexOutOfBoundsException> OUT = IndexOutOfBoundsException.class;
    private static final int[] NO_PLACES = {-1, 6, Integer.MIN_VALUE, Integer.MAX_VALUE};
    private static final Checks checks = new Checks();

    public static void main(String[] args) {
        lastAndOldest();
        isBroken();
        needs();
        kindNumberAndRights();
        kindNumberAndRightsAreRefused();
        sizeOfKinds();
        sizeOfRights();
        sizeOfFiles();
        sizeOfFilesTheOtherWay();
        sizeAtIsRefused();
        size();
        checks.end();
    }

    private static void lastAndOldest() {
        BackMirror mirror = new BackMirror();
        mirror.makeFile(0);
        mirror.run(0);
        checks.answers("last behind a broken run", 0, mirror.last());
        mirror.run(1);
        mirror.run(0);
        checks.answers("last", 2, mirror.last());
        checks.answers("oldest", 0, mirror.oldest());
        mirror.restore(0);
        checks.answers("last behind a restore", 2, mirror.last());
        mirror.thin(2);
        checks.answers("last behind thinning", 2, mirror.last());
        checks.answers("oldest behind thinning", 2, mirror.oldest());
    }

    private static void isBroken() {
        BackMirror mirror = new BackMirror();
        checks.holds("new: not broken", !mirror.isBroken());
        mirror.makeFile(0);
        mirror.makeFile(1);
        mirror.run(0);
        checks.holds("broken behind no step", mirror.isBroken());
        mirror.needs();
        mirror.kindAt(0, 0);
        mirror.sizeAt(0, 0);
        mirror.size();
        checks.holds("asking does not mend", mirror.isBroken());
        mirror.remove(0);
        mirror.remove(1);
        checks.holds("editing does not mend", mirror.isBroken());
        mirror.mend();
        checks.holds("mended", !mirror.isBroken());
        mirror.makeFile(0);
        mirror.makeFile(1);
        mirror.run(1);
        checks.holds("broken behind a step", mirror.isBroken());
        mirror.run(2);
        checks.holds("whole", !mirror.isBroken());
    }

    private static void needs() {
        BackMirror mirror = new BackMirror();
        for (int place = 0; place <= 5; place++) {
            mirror.makeFile(place);
            checks.answers("needs with places", place + 1, mirror.needs());
        }
        mirror.run(4);
        checks.answers("needs of a broken mirror", 6, mirror.needs());
        mirror.remove(0);
        checks.answers("needs of a broken mirror, edited", 5, mirror.needs());
        mirror.run(5);
        checks.answers("needs behind a run", 0, mirror.needs());
        mirror.setRights(1, 3);
        checks.answers("needs with rights", 1, mirror.needs());
        mirror.setRights(1, 0);
        checks.answers("needs with the rights as before", 0, mirror.needs());
    }

    private static BackMirror mixed() {
        BackMirror mirror = new BackMirror();
        Checks.file(mirror, 0, "012345678901");
        mirror.setRights(0, 7);
        mirror.makeLink(1, 5);
        mirror.setRights(1, 1);
        mirror.makeFile(2);
        mirror.run(6);
        mirror.makeLink(0, 0);
        mirror.remove(1);
        mirror.put(2, 0, 8);
        mirror.run(6);
        mirror.makeFile(3);
        return mirror;
    }

    private static void kindNumberAndRights() {
        BackMirror mirror = mixed();
        checks.answers("a file", 1, mirror.kindAt(1, 0));
        checks.answers("a link", 2, mirror.kindAt(1, 1));
        checks.answers("nothing", 0, mirror.kindAt(2, 1));
        checks.answers("the live tree", 1, mirror.kindAt(-1, 3));
        checks.answers("a file's first number", 0, mirror.numberAt(1, 0, 0));
        checks.answers("a file's last number", 1, mirror.numberAt(1, 0, 11));
        checks.answers("a file's number", 9, mirror.numberAt(1, 0, 9));
        checks.answers("behind a file", -1, mirror.numberAt(2, 2, 1));
        checks.answers("an empty file", -1, mirror.numberAt(1, 2, 0));
        checks.answers("where a link leads", 5, mirror.numberAt(1, 1, 0));
        checks.answers("where a live link leads", 0, mirror.numberAt(-1, 0, 0));
        checks.answers("behind a link", -1, mirror.numberAt(1, 1, 1));
        checks.answers("behind all of a link", -1, mirror.numberAt(1, 1, 11));
        checks.answers("nothing's number", -1, mirror.numberAt(-1, 5, 0));
        checks.answers("nothing's last number", -1, mirror.numberAt(0, 5, 11));
        checks.answers("a file's rights", 7, mirror.rightsAt(1, 0));
        checks.answers("a link's rights", 1, mirror.rightsAt(1, 1));
        checks.answers("a new link's rights", 0, mirror.rightsAt(2, 0));
        checks.answers("the rights of what was removed", 0, mirror.rightsAt(2, 1));
        checks.answers("live rights", 0, mirror.rightsAt(-1, 5));
    }

    private static void kindNumberAndRightsAreRefused() {
        Supplier<BackMirror> made = WhatThereIsTest::mixed;
        for (int place : NO_PLACES) {
            for (int date : new int[] {-1, 0, 2}) {
                String at = "At(" + date + ", " + place;
                checks.isRefusedUnchanged("kind" + at, OUT, made, m -> m.kindAt(date, place));
                checks.isRefusedUnchanged("rights" + at, OUT, made, m -> m.rightsAt(date, place));
                checks.isRefusedUnchanged("number" + at + ", 0", OUT, made, m -> m.numberAt(date, place, 0));
            }
        }
        for (int date : new int[] {-2, 3, 41, Integer.MIN_VALUE, Integer.MAX_VALUE}) {
            String at = "At(" + date + ", 0";
            checks.isRefusedUnchanged("kind" + at, OUT, made, m -> m.kindAt(date, 0));
            checks.isRefusedUnchanged("rights" + at, OUT, made, m -> m.rightsAt(date, 0));
            checks.isRefusedUnchanged("number" + at + ", 0", OUT, made, m -> m.numberAt(date, 0, 0));
        }
        for (int spot : new int[] {-1, 12, Integer.MIN_VALUE, Integer.MAX_VALUE}) {
            checks.isRefusedUnchanged("numberAt(1, 0, " + spot, OUT, made, m -> m.numberAt(1, 0, spot));
            checks.isRefusedUnchanged("numberAt(-1, 1, " + spot, OUT, made, m -> m.numberAt(-1, 1, spot));
        }
        BackMirror thinned = mixed();
        thinned.thin(1);
        checks.isRefused("kindAt(0) behind thinning", OUT, () -> thinned.kindAt(0, 0));
        checks.isRefused("rightsAt(0) behind thinning", OUT, () -> thinned.rightsAt(0, 0));
        checks.isRefused("numberAt(0) behind thinning", OUT, () -> thinned.numberAt(0, 0, 0));
        checks.answers("the live tree behind thinning", 2, thinned.kindAt(-1, 0));
    }

    /** What the difference of a place takes that is first the one thing and then the other. */
    private static int taken(String older, String newer) {
        BackMirror mirror = new BackMirror();
        Checks.make(mirror, 3, older);
        mirror.run(1);
        Checks.make(mirror, 3, newer);
        mirror.run(1);
        checks.answers("the last date's size, of " + older + " and " + newer, 0, mirror.sizeAt(2, 3));
        return mirror.sizeAt(1, 3);
    }

    private static void takes(int due, String older, String newer) {
        checks.answers("the size of " + older + " ahead of " + newer, due, taken(older, newer));
    }

    private static void sizeOfKinds() {
        takes(0, "N", "N");
        takes(1, "N", "F");
        takes(1, "N", "F123");
        takes(1, "N", "L0");
        takes(1, "L0", "N");
        takes(1, "L0", "F000");
        takes(0, "L0", "L0");
        takes(1, "L0", "L1");
        takes(1, "F", "N");
        takes(1, "F", "L0");
        takes(2, "F0", "L0");
        takes(4, "F123", "N");
        takes(13, "F000000000000", "L0");
    }

    private static void sizeOfRights() {
        takes(2, "N", "F1/1");
        takes(2, "N", "L0/7");
        takes(2, "L0/7", "N");
        takes(2, "L0/7", "F");
        takes(1, "L0/7", "F/7");
        takes(1, "L0/7", "L1/7");
        takes(2, "L0/7", "L0/6");
        takes(2, "L0/7", "L1/6");
        takes(2, "F/1", "N");
        takes(5, "F123/1", "L0");
        takes(4, "F123/1", "L0/1");
        takes(1, "F/1", "F/2");
        takes(1, "F/1", "F123");
        takes(0, "F/1", "F123/1");
        takes(2, "F1/1", "F1/2");
        takes(3, "F123/1", "F123");
        takes(3, "F123456789012/1", "F123456789012");
        takes(2, "F123/1", "F1234/1");
    }

    private static void sizeOfFiles() {
        takes(0, "F", "F1");
        takes(1, "F1", "F");
        takes(3, "F123", "F");
        takes(0, "F123", "F123");
        takes(2, "F123", "F1234");
        takes(2, "F123", "F9123");
        takes(2, "F12", "F120");
        takes(3, "F1234", "F123");
        takes(3, "F9123", "F123");
        // The same three numbers may be copied again and again.
        takes(8, "F123123123123", "F123");
        takes(8, "F000000000000", "F000");
        takes(6, "F000000000000", "F0000");
        // The longest is looked for, also when it stands behind a shorter one.
        takes(2, "F12345", "F123912345");
        takes(2, "F12345", "F1234512399");
        takes(3, "F12345", "F1234912399");
        // The first copy takes what a later, longer one would want.
        takes(4, "F12345", "F12392345");
        takes(4, "F12345678", "F1239345678");
        takes(4, "F1234567", "F12349134567");
        takes(4, "F012345678", "F2345678012");
        // Two numbers are no copy; the number behind the first is looked at by itself.
        takes(3, "F1923", "F923");
        takes(3, "F12345", "F1292345");
        takes(12, "F121212121212", "F12");
        takes(12, "F098765432101", "F12");
        takes(4, "F123456", "F456123");
        takes(3, "F1234567", "F234567");
        takes(4, "F112345", "F1123");
    }

    /** The older one comes of the newer one, not the other way round. */
    private static void sizeOfFilesTheOtherWay() {
        takes(2, "F123", "F123987654");
        takes(8, "F123987654", "F123");
    }

    private static void sizeAtIsRefused() {
        Supplier<BackMirror> made = WhatThereIsTest::mixed;
        for (int place : NO_PLACES) {
            checks.isRefusedUnchanged("sizeAt(0, " + place, OUT, made, m -> m.sizeAt(0, place));
            checks.isRefusedUnchanged("sizeAt(2, " + place, OUT, made, m -> m.sizeAt(2, place));
        }
        for (int date : new int[] {-1, -2, 3, Integer.MIN_VALUE, Integer.MAX_VALUE}) {
            checks.isRefusedUnchanged("sizeAt(" + date, OUT, made, m -> m.sizeAt(date, 0));
        }
        BackMirror thinned = mixed();
        thinned.thin(1);
        checks.isRefused("sizeAt(0) behind thinning", OUT, () -> thinned.sizeAt(0, 0));
    }

    private static void size() {
        BackMirror mirror = mixed();
        checks.answers("the date 0 takes at 0", 2, mirror.sizeAt(0, 0));
        checks.answers("the date 0 takes at 1", 2, mirror.sizeAt(0, 1));
        checks.answers("the date 0 takes at 2", 1, mirror.sizeAt(0, 2));
        checks.answers("the date 1 takes at 0", 14, mirror.sizeAt(1, 0));
        checks.answers("the date 1 takes at 1", 2, mirror.sizeAt(1, 1));
        checks.answers("the date 1 takes at 2", 0, mirror.sizeAt(1, 2));
        checks.answers("all", 21, mirror.size());
        mirror.run(0);
        checks.answers("all, broken", 21, mirror.size());
        checks.answers("the last date takes nothing, broken", 0, mirror.sizeAt(2, 3));
        mirror.thin(1);
        checks.answers("all, thinned", 16, mirror.size());
        mirror.run(1);
        checks.answers("all, behind a run", 17, mirror.size());
        checks.answers("the date 2 takes at 3", 1, mirror.sizeAt(2, 3));
        mirror.thin(2);
        checks.answers("all, thinned to the last date", 0, mirror.size());
    }
}
