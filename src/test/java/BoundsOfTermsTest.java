import java.util.function.Supplier;

/** The boundary cases of the section 'Terms', sentence by sentence. */
public final class BoundsOfTermsTest {
    private static final Class<IndexOutOfBoundsException> INDEX = IndexOutOfBoundsException.class;
    private static final Class<IllegalStateException> STATE = IllegalStateException.class;
    private static final Class<IllegalArgumentException> ARGUMENT = IllegalArgumentException.class;
    private static final String EMPTY_TREE = " N()0 N()0 N()0 N()0 N()0 N()0";
    private static final Checks checks = new Checks();

    public static void main(String[] args) {
        keptDatesBehindARunThatFailed();
        keptDatesBehindRunsThatFailedAgainAndAgain();
        keptDatesAtForty();
        callsThatThrowChangeNothing();
        places();
        rowOfUpToTwelve();
        numbersZeroToNine();
        rightsZeroToSeven();
        nothingHasTheRightsZero();
        mirrorAtFirst();
        mirrorIsOfTheLastWholeRun();
        stepIsAnyDifference();
        onePlaceIsOneStep();
        wholeRunMakesTheNextDate();
        brokenBehindAsMany();
        mendedAheadOfARun();
        mendedAheadOfRestoringAndThinning();
        differencesOfAllDatesButTheLast();
        differenceOfTheSameNumbers();
        copyHasThreeNumbersOrMore();
        copyIsTheLongest();
        numberToldByItself();
        fromTheBeginningOfTheOlderOne();
        emptyFilesInDifferences();
        differenceIfNotBothAreFiles();
        rightsThatDifferTakeOneMore();
        thinningForgetsDifferences();
        constants();
        fiveHundredAndTwelveCalls();
        checks.end();
    }

    // ---- each kept date restores to its tree

    /** The dates 0 to 2, and another thing at all six places of the live tree. */
    private static BackMirror sixStepsOff() {
        BackMirror mirror = new BackMirror();
        Checks.file(mirror, 0, "12345");
        mirror.makeLink(1, 2);
        mirror.makeFile(2);
        mirror.run(6);
        mirror.setRights(0, 7);
        mirror.makeLink(1, 3);
        Checks.file(mirror, 5, "000111222333");
        mirror.run(6);
        mirror.take(0, 2);
        mirror.remove(1);
        mirror.put(2, 0, 1);
        mirror.makeFile(3);
        mirror.makeLink(4, 4);
        mirror.setRights(5, 1);
        return mirror;
    }

    private static final String[] TREES = {
        EMPTY_TREE,
        " F(1,2,3,4,5)0 L(2)0 F()0 N()0 N()0 N()0",
        " F(1,2,3,4,5)7 L(3)0 F()0 N()0 N()0 F(0,0,0,1,1,1,2,2,2,3,3,3)0",
    };

    private static void keptDatesBehindARunThatFailed() {
        checks.sentence("Each kept date restores to its tree, also behind a run that failed anywhere");
        for (int steps = 0; steps <= 5; steps++) {
            for (int date = 0; date <= 2; date++) {
                BackMirror mirror = sixStepsOff();
                checks.answers("the run of " + steps, -1, mirror.run(steps));
                checks.answers("the date " + date, TREES[date], Checks.tree(mirror, date));
                mirror.restore(date);
                checks.answers("restored " + date, TREES[date], Checks.tree(mirror, -1));
                checks.answers("a run of it", 3, mirror.run(6));
                checks.answers("the date of it", TREES[date], Checks.tree(mirror, 3));
                for (int other = 0; other <= 2; other++) {
                    checks.answers("the date " + other + " still", TREES[other], Checks.tree(mirror, other));
                }
            }
        }
    }

    private static void keptDatesBehindRunsThatFailedAgainAndAgain() {
        checks.sentence("Each kept date restores to its tree, also behind runs that failed one behind the other");
        for (int first = 0; first <= 5; first++) {
            for (int second = 0; second <= 5; second++) {
                BackMirror mirror = sixStepsOff();
                mirror.run(first);
                checks.answers("the second run", -1, mirror.run(second));
                mirror.thin(1);
                mirror.run(first);
                for (int date = 1; date <= 2; date++) {
                    checks.answers("the date " + date, TREES[date], Checks.tree(mirror, date));
                    mirror.restore(date);
                    checks.answers("restored " + date, TREES[date], Checks.tree(mirror, -1));
                    mirror.remove(0);
                    mirror.run(0);
                }
            }
        }
    }

    private static void keptDatesAtForty() {
        checks.sentence("Each kept date restores to its tree, forty of them");
        BackMirror mirror = new BackMirror();
        mirror.makeFile(0);
        String numbers = "";
        for (int date = 1; date <= 40; date++) {
            if (date > 12) {
                mirror.take(0, 0);
                numbers = numbers.substring(1);
            }
            mirror.put(0, numbers.length(), date % 10);
            numbers += date % 10;
            mirror.run(0);
            mirror.run(1);
        }
        for (int date = 40; date >= 1; date--) {
            mirror.restore(date);
            checks.answers("the first number of " + date, Math.max(1, date - 11) % 10, mirror.numberAt(-1, 0, 0));
            checks.answers("the last number of " + date, date % 10, mirror.numberAt(-1, 0, Math.min(date, 12) - 1));
        }
        mirror.restore(0);
        checks.answers("the date 0", EMPTY_TREE, Checks.tree(mirror, -1));
    }

    // ---- exceptions

    private static void callsThatThrowChangeNothing() {
        checks.sentence("A call that throws an exception changes nothing; one behind the other");
        for (States.State state : States.ALL) {
            BackMirror mirror = state.made().get();
            int beyond = mirror.last() + 1;
            checks.isRefused("makeFile", INDEX, () -> mirror.makeFile(6));
            checks.isRefused("makeLink", INDEX, () -> mirror.makeLink(0, 6));
            checks.isRefused("remove", INDEX, () -> mirror.remove(-1));
            checks.isRefused("put, place", INDEX, () -> mirror.put(6, 0, 0));
            checks.isRefused("put, full", STATE, () -> mirror.put(States.FULL_FILE, 12, 9));
            checks.isRefused("put, spot", ARGUMENT, () -> mirror.put(States.FILE_OF_THREE, 4, 9));
            checks.isRefused("put, number", ARGUMENT, () -> mirror.put(States.FILE_OF_THREE, 3, 10));
            checks.isRefused("take, place", INDEX, () -> mirror.take(-1, 0));
            checks.isRefused("take, link", STATE, () -> mirror.take(States.LINK_TO_ITSELF, 0));
            checks.isRefused("take, spot", ARGUMENT, () -> mirror.take(States.FULL_FILE, 12));
            checks.isRefused("setRights, place", INDEX, () -> mirror.setRights(6, 0));
            checks.isRefused("setRights, nothing", STATE, () -> mirror.setRights(States.NOTHING_THERE, 1));
            checks.isRefused("setRights, rights", ARGUMENT, () -> mirror.setRights(States.LINK_WITH_RIGHTS, 8));
            checks.isRefused("run", ARGUMENT, () -> mirror.run(7));
            checks.isRefused("thin", ARGUMENT, () -> mirror.thin(0));
            if (beyond <= 40) {
                checks.isRefused("thin all", STATE, () -> mirror.thin(beyond));
            }
            checks.isRefused("restore", INDEX, () -> mirror.restore(beyond));
            checks.isRefused("kindAt", INDEX, () -> mirror.kindAt(beyond, 0));
            checks.isRefused("numberAt", INDEX, () -> mirror.numberAt(-1, 0, 12));
            checks.isRefused("rightsAt", INDEX, () -> mirror.rightsAt(-1, 6));
            checks.isRefused("sizeAt", INDEX, () -> mirror.sizeAt(-1, 0));
            checks.answers(state.name(), Checks.picture(state.made().get()), Checks.picture(mirror));
        }
    }

    // ---- places, files, links, rights

    private static void places() {
        checks.sentence("There are the places 0 to 5. At a place there is nothing (at first), a file, or a link");
        BackMirror mirror = new BackMirror();
        for (int place = 0; place <= 5; place++) {
            checks.answers("at first", BackMirror.NOTHING, mirror.kindAt(-1, place));
            mirror.makeFile(place);
            checks.answers("a file", BackMirror.FILE, mirror.kindAt(-1, place));
            mirror.makeLink(place, 5 - place);
            checks.answers("a link", BackMirror.LINK, mirror.kindAt(-1, place));
            checks.answers("leads to a place", 5 - place, mirror.numberAt(-1, place, 0));
            mirror.remove(place);
            checks.answers("nothing again", BackMirror.NOTHING, mirror.kindAt(-1, place));
        }
    }

    private static void rowOfUpToTwelve() {
        checks.sentence("A file is a row of up to 12 numbers");
        for (int place = 0; place <= 5; place++) {
            BackMirror mirror = new BackMirror();
            mirror.makeFile(place);
            for (int length = 1; length <= 12; length++) {
                checks.answers("put", length, mirror.put(place, 0, 1));
            }
            int full = place;
            checks.isRefused("put the 13th", STATE, () -> mirror.put(full, 0, 1));
            mirror.setRights(place, 4);
            mirror.run(6);
            mirror.makeFile(place);
            mirror.restore(1);
            checks.answers("the file", "F(1,1,1,1,1,1,1,1,1,1,1,1)4", Checks.thing(mirror, -1, place));
            checks.isRefused("put the 13th behind restoring", STATE, () -> mirror.put(full, 12, 1));
            mirror.take(place, 0);
            checks.answers("put the 12th again", 12, mirror.put(place, 11, 0));
        }
    }

    private static void numbersZeroToNine() {
        checks.sentence("numbers, 0 to 9");
        for (int number = 0; number <= 9; number++) {
            BackMirror mirror = new BackMirror();
            mirror.makeFile(0);
            mirror.put(0, 0, number);
            checks.answers("asked", number, mirror.numberAt(-1, 0, 0));
            checks.answers("taken", number, mirror.take(0, 0));
        }
        Supplier<BackMirror> made = States::whole;
        checks.isRefusedUnchanged("-1", ARGUMENT, made, m -> m.put(0, 0, -1));
        checks.isRefusedUnchanged("10", ARGUMENT, made, m -> m.put(0, 0, 10));
    }

    private static void rightsZeroToSeven() {
        checks.sentence("A file and a link have rights, 0 to 7");
        BackMirror mirror = new BackMirror();
        mirror.makeFile(0);
        mirror.makeLink(1, 0);
        for (int rights = 0; rights <= 7; rights++) {
            mirror.setRights(0, rights);
            mirror.setRights(1, 7 - rights);
            checks.answers("a file's", rights, mirror.rightsAt(-1, 0));
            checks.answers("a link's", 7 - rights, mirror.rightsAt(-1, 1));
        }
        checks.isRefused("-1, a file", ARGUMENT, () -> mirror.setRights(0, -1));
        checks.isRefused("8, a file", ARGUMENT, () -> mirror.setRights(0, 8));
        checks.isRefused("-1, a link", ARGUMENT, () -> mirror.setRights(1, -1));
        checks.isRefused("8, a link", ARGUMENT, () -> mirror.setRights(1, 8));
    }

    private static void nothingHasTheRightsZero() {
        checks.sentence("what is nothing has the rights 0");
        BackMirror mirror = new BackMirror();
        checks.answers("at first", 0, mirror.rightsAt(-1, 0));
        checks.answers("at first, on the date 0", 0, mirror.rightsAt(0, 0));
        mirror.makeFile(0);
        mirror.setRights(0, 7);
        mirror.run(1);
        mirror.remove(0);
        checks.answers("removed", 0, mirror.rightsAt(-1, 0));
        mirror.run(1);
        checks.answers("removed, on a date", 0, mirror.rightsAt(2, 0));
        mirror.restore(1);
        checks.answers("a file again", 7, mirror.rightsAt(-1, 0));
        mirror.restore(2);
        checks.answers("removed by restoring", 0, mirror.rightsAt(-1, 0));
        mirror.makeLink(0, 0);
        checks.answers("a link where nothing with rights was", 0, mirror.rightsAt(-1, 0));
    }

    // ---- the mirror and its runs

    private static void mirrorAtFirst() {
        checks.sentence("at first it has nothing at all places, and the date 0 is that");
        BackMirror mirror = States.withoutARun();
        checks.answers("the date 0", EMPTY_TREE, Checks.tree(mirror, 0));
        checks.answers("last", 0, mirror.last());
        checks.answers("a step for each thing", 5, mirror.needs());
        checks.answers("restored", 5, mirror.restore(0));
        checks.answers("the live tree", EMPTY_TREE, Checks.tree(mirror, -1));
    }

    private static void mirrorIsOfTheLastWholeRun() {
        checks.sentence("The mirror is a copy of it as it was at the last run that was whole");
        BackMirror mirror = sixStepsOff();
        checks.answers("edited since", TREES[2], Checks.tree(mirror, 2));
        mirror.run(5);
        checks.answers("behind a broken run", TREES[2], Checks.tree(mirror, 2));
        mirror.run(6);
        checks.answers("behind a whole one", " F(1,2,4,5)7 N()0 F(1)0 F()0 L(4)0 F(0,0,0,1,1,1,2,2,2,3,3,3)1",
                Checks.tree(mirror, 3));
        mirror.restore(0);
        checks.answers("restoring does not bring the mirror back", 3, mirror.last());
        checks.answers("a step for each thing", 5, mirror.needs());
    }

    /** One edit of a mirror that stood at its last date, and the least run that it needs. */
    private static void isOneStep(String name, Checks.CallOn edit) {
        BackMirror mirror = sixStepsOff();
        mirror.run(6);
        edit.answer(mirror);
        checks.answers(name + ", needs", 1, mirror.needs());
        checks.answers(name + ", run(0)", -1, mirror.run(0));
        checks.answers(name + ", run(1)", 4, mirror.run(1));
        checks.answers(name + ", needs then", 0, mirror.needs());
    }

    private static void stepIsAnyDifference() {
        checks.sentence("each one at which the mirror differs (kind, numbers, where a link leads, or rights) is a step");
        isOneStep("kind, nothing to an empty file", m -> m.makeFile(1));
        isOneStep("kind, nothing to a link", m -> m.makeLink(1, 0));
        isOneStep("kind, an empty file to nothing", m -> m.remove(3));
        isOneStep("kind, a link to nothing", m -> m.remove(4));
        isOneStep("kind, a file to a link to the number it has", m -> m.makeLink(2, 1));
        isOneStep("numbers, one more", m -> m.put(0, 4, 5));
        isOneStep("numbers, one into an empty file", m -> m.put(3, 0, 0));
        isOneStep("numbers, one less", m -> m.take(0, 3));
        isOneStep("numbers, the only one less", m -> m.take(2, 0));
        isOneStep("numbers, the last of twelve less", m -> m.take(5, 11));
        isOneStep("where a link leads", m -> m.makeLink(4, 5));
        isOneStep("rights of a file", m -> m.setRights(0, 6));
        isOneStep("rights of an empty file", m -> m.setRights(3, 1));
        isOneStep("rights of a link", m -> m.setRights(4, 7));
        BackMirror mirror = sixStepsOff();
        mirror.run(6);
        mirror.take(5, 11);
        mirror.put(5, 11, 2);
        checks.answers("numbers, the last of twelve another one", 1, mirror.needs());
        mirror.take(5, 11);
        mirror.put(5, 11, 3);
        checks.answers("no difference", 0, mirror.needs());
        mirror.makeLink(4, 4);
        mirror.makeFile(3);
        checks.answers("made again, no difference", 0, mirror.needs());
        checks.answers("a run without a step is whole", 4, mirror.run(0));
    }

    private static void onePlaceIsOneStep() {
        checks.sentence("each one at which the mirror differs is a step, whatever differs there");
        isOneStep("kind, numbers and rights", m -> {
            Checks.file(m, 4, "123456789012");
            return m.setRights(4, 7);
        });
        isOneStep("where a link leads, and rights", m -> {
            m.makeLink(4, 0);
            return m.setRights(4, 1);
        });
    }

    private static void wholeRunMakesTheNextDate() {
        checks.sentence("A run is whole if all its steps are made; a new date, the last date and 1");
        for (int needed = 0; needed <= 6; needed++) {
            BackMirror mirror = new BackMirror();
            mirror.run(0);
            for (int place = 6 - needed; place <= 5; place++) {
                mirror.makeFile(place);
            }
            checks.answers("just as many as it needs, " + needed, 2, mirror.run(needed));
            checks.holds("not broken", !mirror.isBroken());
            checks.answers("last", 2, mirror.last());
            checks.answers("the mirror is that of the live tree", Checks.tree(mirror, -1), Checks.tree(mirror, 2));
            checks.answers("the date ahead", EMPTY_TREE, Checks.tree(mirror, 1));
        }
    }

    private static void brokenBehindAsMany() {
        checks.sentence("A run that may make fewer steps than it needs is broken behind as many, also behind none");
        for (int needed = 1; needed <= 6; needed++) {
            for (int steps = 0; steps < needed; steps++) {
                BackMirror mirror = new BackMirror();
                for (int place = 6 - needed; place <= 5; place++) {
                    mirror.makeFile(place);
                }
                checks.answers("the run", -1, mirror.run(steps));
                checks.holds("broken", mirror.isBroken());
                checks.answers("the date 0", EMPTY_TREE, Checks.tree(mirror, 0));
                checks.answers("last", 0, mirror.last());
                checks.answers("size", 0, mirror.size());
                checks.answers("behind as many", steps, mirror.mend());
            }
        }
    }

    private static void mendedAheadOfARun() {
        checks.sentence("Ahead of a run a broken mirror is mended: the steps of the broken run are undone");
        for (int first = 0; first <= 5; first++) {
            for (int second = 0; second <= 5; second++) {
                BackMirror mirror = sixStepsOff();
                mirror.run(first);
                checks.answers("a broken run again", -1, mirror.run(second));
                checks.answers("only its own steps are left to undo", second, mirror.mend());
            }
            BackMirror mirror = sixStepsOff();
            mirror.run(first);
            checks.answers("all steps are needed again", 3, mirror.run(6));
            checks.holds("not broken", !mirror.isBroken());
            checks.answers("nothing is left to undo", 0, mirror.mend());
            BackMirror back = sixStepsOff();
            back.run(first);
            for (int place = 0; place <= 5; place++) {
                back.remove(place);
            }
            back.makeLink(3, 3);
            checks.answers("what was undone is a step where it differs", 5, back.needs());
            checks.answers("the run", 3, back.run(5));
            checks.answers("the tree", " N()0 N()0 N()0 L(3)0 N()0 N()0", Checks.tree(back, 3));
        }
    }

    private static void mendedAheadOfRestoringAndThinning() {
        checks.sentence("Ahead of restoring and of thinning a broken mirror is mended");
        for (int steps = 0; steps <= 5; steps++) {
            BackMirror restored = sixStepsOff();
            restored.run(steps);
            checks.answers("restore the last date", 6, restored.restore(2));
            checks.holds("restored: not broken", !restored.isBroken());
            checks.answers("restored: nothing to undo", 0, restored.mend());
            checks.answers("restored: no step is needed", 0, restored.needs());
            BackMirror thinned = sixStepsOff();
            thinned.run(steps);
            checks.answers("thin", 2, thinned.thin(2));
            checks.holds("thinned: not broken", !thinned.isBroken());
            checks.answers("thinned: nothing to undo", 0, thinned.mend());
            checks.answers("thinned: the steps are needed", 6, thinned.needs());
        }
    }

    // ---- differences

    /** What the difference takes at a place that is first the one thing and then the other. */
    private static void takes(int due, String older, String newer) {
        for (int place : new int[] {0, 5}) {
            BackMirror mirror = new BackMirror();
            Checks.make(mirror, place, older);
            mirror.run(1);
            Checks.make(mirror, place, newer);
            mirror.run(1);
            String name = older + " ahead of " + newer + " at " + place;
            checks.answers(name, due, mirror.sizeAt(1, place));
            checks.answers(name + ", all", due + mirror.sizeAt(0, place), mirror.size());
            String was = Checks.thing(mirror, 1, place);
            mirror.restore(1);
            checks.answers(name + ", restored", was, Checks.thing(mirror, -1, place));
        }
    }

    private static void differencesOfAllDatesButTheLast() {
        checks.sentence("For each date but the last one, and each place at which it differs from the next date");
        BackMirror mirror = new BackMirror();
        for (int date = 1; date <= 40; date++) {
            int changed = date % 6;
            mirror.makeLink(changed, date / 6 % 6);
            mirror.setRights(changed, 1);
            mirror.run(6);
            // The first six dates have nothing where the next one has a link, and so other rights.
            int due = date <= 6 ? 2 : 1;
            for (int place = 0; place <= 5; place++) {
                checks.answers("ahead of the date " + date, place == changed ? due : 0, mirror.sizeAt(date - 1, place));
                checks.answers("the last date " + date, 0, mirror.sizeAt(date, place));
            }
        }
        checks.answers("all", 6 * 2 + 34, mirror.size());
    }

    private static void differenceOfTheSameNumbers() {
        checks.sentence("If both are files, also with the same numbers, it is found so");
        takes(1, "F/1", "F");
        takes(2, "F5/1", "F5");
        takes(3, "F55/1", "F55");
        takes(3, "F555/1", "F555");
        takes(3, "F555555555555/1", "F555555555555");
        takes(3, "F123456789012", "F123456789012/7");
    }

    private static void copyHasThreeNumbersOrMore() {
        checks.sentence("if it has 3 numbers or more, it is a copy, which takes 2");
        takes(1, "F1", "F12");
        takes(2, "F12", "F123");
        takes(2, "F123", "F1234");
        takes(2, "F1234", "F12345");
        takes(2, "F12345678901", "F123456789012");
        takes(2, "F123", "F123456789012");
        takes(2, "F012", "F345678901012");
        takes(2, "F456", "F123456789012");
        takes(3, "F123", "F12");
        takes(3, "F123", "F1293");
    }

    private static void copyIsTheLongest() {
        checks.sentence("each time the longest row of numbers that stands there, of several places the first one");
        takes(2, "F1234", "F12391234");
        takes(2, "F1234", "F12341239");
        takes(2, "F1234", "F123412341234");
        takes(2, "F12345", "F123412345");
        takes(3, "F1234", "F123123123123");
        takes(4, "F12345", "F12392345");
        takes(4, "F123123", "F123");
        takes(8, "F123123123123", "F123");
        takes(6, "F000000000000", "F0000");
        takes(4, "F00000", "F000");
        takes(3, "F0000", "F000");
    }

    private static void numberToldByItself() {
        checks.sentence("otherwise the next number is told by itself, which takes 1");
        takes(1, "F7", "F8");
        takes(2, "F77", "F8");
        takes(2, "F12", "F12912");
        takes(12, "F121212121212", "F12");
        takes(12, "F123456789012", "F333333333333");
        takes(12, "F098765432109", "F012345678901");
        takes(3, "F1239", "F123");
        takes(3, "F9123", "F123");
        // Behind the first of two numbers that stand there a copy may begin at the second one.
        takes(3, "F1234", "F129234");
    }

    private static void fromTheBeginningOfTheOlderOne() {
        checks.sentence("from the beginning of the older one on, looked for in the newer one");
        // Begun at the end it would be one number and a copy of four, which takes 3.
        takes(4, "F12345", "F1232345");
        takes(4, "F012345678", "F2345678012");
        takes(2, "F123", "F123987654");
        takes(8, "F123987654", "F123");
        takes(3, "F321", "F123");
    }

    private static void emptyFilesInDifferences() {
        checks.sentence("If both are files, one of them empty or both");
        takes(0, "F", "F");
        takes(0, "F", "F1");
        takes(0, "F", "F123456789012");
        takes(1, "F1", "F");
        takes(3, "F123", "F");
        takes(12, "F123456789012", "F");
    }

    private static void differenceIfNotBothAreFiles() {
        checks.sentence("If not both are files, 1 for a link or nothing, and the number of its numbers, and 1, for a file");
        takes(0, "N", "N");
        takes(1, "N", "F");
        takes(1, "N", "F123456789012");
        takes(1, "N", "L0");
        takes(1, "L0", "N");
        takes(1, "L5", "F");
        takes(1, "L0", "F0");
        takes(1, "L0", "L5");
        takes(0, "L5", "L5");
        takes(1, "F", "N");
        takes(1, "F", "L0");
        takes(2, "F0", "L0");
        takes(4, "F555", "N");
        takes(13, "F123456789012", "N");
        takes(13, "F555555555555", "L5");
    }

    private static void rightsThatDifferTakeOneMore() {
        checks.sentence("Rights that differ take 1 more");
        takes(2, "N", "F/1");
        takes(2, "N", "L0/7");
        takes(2, "F/7", "N");
        takes(2, "L0/1", "N");
        takes(14, "F123456789012/1", "N");
        takes(14, "F123456789012/1", "L0/2");
        takes(13, "F123456789012/1", "L0/1");
        takes(2, "L0/1", "L0");
        takes(2, "L0", "L0/1");
        takes(2, "L0/1", "L1");
        takes(1, "L0/1", "L1/1");
        takes(0, "L3/7", "L3/7");
        takes(2, "L3/7", "F33/6");
        takes(1, "L3/7", "F33/7");
        takes(1, "F/1", "F/2");
        takes(1, "F/1", "F1");
        takes(0, "F/1", "F1/1");
        takes(13, "F123456789012/7", "F/6");
    }

    private static void thinningForgetsDifferences() {
        checks.sentence("Thinning forgets the oldest dates, with their differences");
        BackMirror mirror = sixStepsOff();
        mirror.run(6);
        int[] due = {3, 5, 11};
        for (int date = 0; date <= 2; date++) {
            int taken = 0;
            for (int place = 0; place <= 5; place++) {
                taken += mirror.sizeAt(date, place);
            }
            checks.answers("the date " + date, due[date], taken);
        }
        checks.answers("all", 19, mirror.size());
        mirror.thin(1);
        checks.answers("without the date 0", 16, mirror.size());
        mirror.thin(1);
        checks.answers("without the date 1", 11, mirror.size());
        mirror.thin(1);
        checks.answers("without the date 2", 0, mirror.size());
        checks.isRefused("the date 2", INDEX, () -> mirror.sizeAt(2, 0));
        BackMirror atOnce = sixStepsOff();
        atOnce.run(6);
        atOnce.thin(2);
        checks.answers("thinned at once", 11, atOnce.size());
    }

    private static void constants() {
        checks.sentence("The constants");
        checks.answers("NONE", -1, BackMirror.NONE);
        checks.answers("NOTHING", 0, BackMirror.NOTHING);
        checks.answers("FILE", 1, BackMirror.FILE);
        checks.answers("LINK", 2, BackMirror.LINK);
    }

    private static void fiveHundredAndTwelveCalls() {
        checks.sentence("An object is used for at most 512 calls after it has been made");
        BackMirror mirror = new BackMirror();
        checks.answers("call 1", 0, mirror.makeFile(5));
        for (int call = 2; call <= 511; call += 2) {
            checks.answers("call " + call, 1, mirror.put(5, 0, call % 10));
            checks.answers("call " + (call + 1), call % 10, mirror.take(5, 0));
        }
        checks.answers("call 512", 1, mirror.run(1));
        BackMirror refused = new BackMirror();
        for (int call = 1; call <= 511; call++) {
            refused.makeLink(call % 6, call % 5);
        }
        checks.isRefused("call 512, refused", STATE, () -> refused.put(0, 0, 0));
    }
}
