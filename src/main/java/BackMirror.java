/**
 * A mirror of a tree of six places. The live tree is edited, a whole run makes a new date of it,
 * and every kept date can be looked at and restored.
 *
 * <p>Things are never changed once made, so a date shares the things of the live tree that it was
 * made of, and is held whole. What the difference of a date takes is told from it and the next one.
 */
public final class BackMirror {
    public static final int NONE = -1;
    public static final int NOTHING = 0, FILE = 1, LINK = 2;

    private static final int PLACES = 6;
    private static final int MOST_NUMBERS = 12;
    private static final int HIGHEST_NUMBER = 9;
    private static final int HIGHEST_RIGHTS = 7;
    private static final int MOST_DATES = 40;
    private static final int SHORTEST_COPY = 3;
    private static final int COPY_TAKES = 2;

    private final Thing[] live;
    /** The thing of the date d at the place p stands at d * PLACES + p. */
    private final Thing[] kept;
    private int oldestDate;
    private int lastDate;
    /**
     * A broken run is only counted: no call shows the mirror between its steps, and undoing them
     * brings it back to the last date, which is kept.
     */
    private boolean broken;
    private int brokenSteps;

    public BackMirror() {
        Thing nothing = new Thing(NOTHING, 0, new int[0]);
        live = new Thing[PLACES];
        for (int i = 0; i < live.length; i++) {
            live[i] = nothing;
        }
        kept = new Thing[(MOST_DATES + 1) * PLACES];
        for (int i = 0; i < kept.length; i++) {
            kept[i] = nothing;
        }
        oldestDate = 0;
        lastDate = 0;
        broken = false;
        brokenSteps = 0;
    }

    // ---- the live tree

    public int makeFile(int place) throws IndexOutOfBoundsException {
        checkPlace(place);
        return exchange(place, new Thing(FILE, 0, new int[0]));
    }

    public int makeLink(int place, int to) throws IndexOutOfBoundsException {
        checkPlace(place);
        checkPlace(to);
        return exchange(place, new Thing(LINK, 0, new int[] {to}));
    }

    public int remove(int place) throws IndexOutOfBoundsException {
        checkPlace(place);
        return exchange(place, new Thing(NOTHING, 0, new int[0]));
    }

    public int put(int place, int spot, int number)
            throws IndexOutOfBoundsException, IllegalStateException, IllegalArgumentException {
        checkPlace(place);
        Thing file = live[place];
        int length = file.numbers.length;
        if (file.kind != FILE || length >= MOST_NUMBERS) {
            throw new IllegalStateException("no file, or a full one");
        }
        if (spot < 0 || spot > length || number < 0 || number > HIGHEST_NUMBER) {
            throw new IllegalArgumentException("no such spot or number");
        }
        live[place] = new Thing(FILE, file.rights, rowWith(file.numbers, spot, number));
        return length + 1;
    }

    public int take(int place, int spot)
            throws IndexOutOfBoundsException, IllegalStateException, IllegalArgumentException {
        checkPlace(place);
        Thing file = live[place];
        if (file.kind != FILE) {
            throw new IllegalStateException("no file");
        }
        if (spot < 0 || spot >= file.numbers.length) {
            throw new IllegalArgumentException("no such spot");
        }
        live[place] = new Thing(FILE, file.rights, rowWithout(file.numbers, spot));
        return file.numbers[spot];
    }

    public int setRights(int place, int rights)
            throws IndexOutOfBoundsException, IllegalStateException, IllegalArgumentException {
        checkPlace(place);
        Thing thing = live[place];
        if (thing.kind == NOTHING) {
            throw new IllegalStateException("nothing there");
        }
        if (rights < 0 || rights > HIGHEST_RIGHTS) {
            throw new IllegalArgumentException("no such rights");
        }
        live[place] = new Thing(thing.kind, rights, thing.numbers);
        return thing.rights;
    }

    // ---- runs

    public int run(int steps) throws IllegalArgumentException, IllegalStateException {
        if (steps < 0 || steps > PLACES) {
            throw new IllegalArgumentException("no such number of steps");
        }
        if (lastDate >= MOST_DATES) {
            throw new IllegalStateException("all dates were made");
        }
        undoBrokenRun();
        if (steps < stepsNeeded()) {
            broken = true;
            brokenSteps = steps;
            return NONE;
        }
        lastDate++;
        for (int place = 0; place < PLACES; place++) {
            kept[keptIndex(lastDate, place)] = live[place];
        }
        return lastDate;
    }

    public int mend() {
        return undoBrokenRun();
    }

    public int thin(int dates) throws IllegalArgumentException, IllegalStateException {
        if (dates < 1 || dates > MOST_DATES) {
            throw new IllegalArgumentException("no such number of dates");
        }
        if (oldestDate + dates > lastDate) {
            throw new IllegalStateException("the last date stays");
        }
        undoBrokenRun();
        oldestDate += dates;
        return oldestDate;
    }

    public int restore(int date) throws IndexOutOfBoundsException {
        checkKept(date);
        undoBrokenRun();
        int changed = 0;
        for (int place = 0; place < PLACES; place++) {
            Thing was = kept[keptIndex(date, place)];
            if (!live[place].isLike(was)) {
                changed++;
            }
            live[place] = was;
        }
        return changed;
    }

    // ---- what there is

    public int last() {
        return lastDate;
    }

    public int oldest() {
        return oldestDate;
    }

    public boolean isBroken() {
        return broken;
    }

    public int needs() {
        return stepsNeeded();
    }

    public int kindAt(int date, int place) throws IndexOutOfBoundsException {
        return thingOn(date, place).kind;
    }

    public int numberAt(int date, int place, int spot) throws IndexOutOfBoundsException {
        Thing thing = thingOn(date, place);
        if (spot < 0 || spot >= MOST_NUMBERS) {
            throw new IndexOutOfBoundsException("no such spot");
        }
        return spot < thing.numbers.length ? thing.numbers[spot] : NONE;
    }

    public int rightsAt(int date, int place) throws IndexOutOfBoundsException {
        return thingOn(date, place).rights;
    }

    public int sizeAt(int date, int place) throws IndexOutOfBoundsException {
        checkKept(date);
        checkPlace(place);
        return differenceTakes(date, place);
    }

    public int size() {
        int taken = 0;
        for (int date = oldestDate; date < lastDate; date++) {
            for (int place = 0; place < PLACES; place++) {
                taken += differenceTakes(date, place);
            }
        }
        return taken;
    }

    // ---- places and dates

    private static void checkPlace(int place) {
        if (place < 0 || place >= PLACES) {
            throw new IndexOutOfBoundsException("no such place");
        }
    }

    private void checkKept(int date) {
        if (date < oldestDate || date > lastDate) {
            throw new IndexOutOfBoundsException("no date that is kept");
        }
    }

    private static int keptIndex(int date, int place) {
        return date * PLACES + place;
    }

    private Thing thingOn(int date, int place) {
        if (date != NONE) {
            checkKept(date);
        }
        checkPlace(place);
        return date == NONE ? live[place] : kept[keptIndex(date, place)];
    }

    private int exchange(int place, Thing thing) {
        int kindBefore = live[place].kind;
        live[place] = thing;
        return kindBefore;
    }

    // ---- steps

    private int stepsNeeded() {
        int steps = 0;
        for (int place = 0; place < PLACES; place++) {
            if (!live[place].isLike(kept[keptIndex(lastDate, place)])) {
                steps++;
            }
        }
        return steps;
    }

    private int undoBrokenRun() {
        int undone = brokenSteps;
        broken = false;
        brokenSteps = 0;
        return undone;
    }

    // ---- differences

    private int differenceTakes(int date, int place) {
        if (date >= lastDate) {
            return 0;
        }
        Thing older = kept[keptIndex(date, place)];
        Thing newer = kept[keptIndex(date + 1, place)];
        if (older.isLike(newer)) {
            return 0;
        }
        int rightsTake = older.rights == newer.rights ? 0 : 1;
        if (older.kind == FILE && newer.kind == FILE) {
            return rightsTake + rowTakes(older.numbers, newer.numbers);
        }
        return rightsTake + (older.kind == FILE ? older.numbers.length + 1 : 1);
    }

    private static int rowTakes(int[] older, int[] newer) {
        int taken = 0;
        int spot = 0;
        while (spot < older.length) {
            int length = longestCopy(older, spot, newer);
            if (length >= SHORTEST_COPY) {
                taken += COPY_TAKES;
                spot += length;
            } else {
                taken++;
                spot++;
            }
        }
        return taken;
    }

    /** Which of several longest places it is copied from does not change what the copy takes. */
    private static int longestCopy(int[] older, int spot, int[] newer) {
        int longest = 0;
        for (int from = 0; from < newer.length; from++) {
            longest = Math.max(longest, sharedLength(older, spot, newer, from));
        }
        return longest;
    }

    private static int sharedLength(int[] older, int spot, int[] newer, int from) {
        int length = 0;
        while (spot + length < older.length && from + length < newer.length
                && older[spot + length] == newer[from + length]) {
            length++;
        }
        return length;
    }

    // ---- rows of numbers

    private static boolean isSameRow(int[] one, int[] other) {
        return one.length == other.length && sharedLength(one, 0, other, 0) == one.length;
    }

    private static int[] rowWith(int[] row, int spot, int number) {
        int[] longer = new int[row.length + 1];
        for (int i = 0; i < longer.length; i++) {
            if (i == spot) {
                longer[i] = number;
            } else {
                longer[i] = row[i < spot ? i : i - 1];
            }
        }
        return longer;
    }

    /** The caller has looked that the spot is one of the row, so that the row is not empty. */
    private static int[] rowWithout(int[] row, int spot) {
        int[] shorter = new int[row.length - 1];
        for (int i = 0; i < shorter.length; i++) {
            shorter[i] = row[i < spot ? i : i + 1];
        }
        return shorter;
    }

    /** What is at a place: never changed once made, since dates share it with the live tree. */
    private static final class Thing {
        final int kind;
        final int rights;
        /** A file's numbers, as many as it has; the place that a link leads to; empty for nothing. */
        final int[] numbers;

        Thing(int kind, int rights, int[] numbers) {
            this.kind = kind;
            this.rights = rights;
            this.numbers = numbers;
        }

        boolean isLike(Thing other) {
            return kind == other.kind && rights == other.rights && isSameRow(numbers, other.numbers);
        }
    }
}
