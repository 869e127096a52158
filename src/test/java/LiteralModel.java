import java.util.ArrayList;
import java.util.HashMap;
import java.util.List;
import java.util.Map;

/**
 * The document taken word by word, in another form than the class: a mirror that is brought on step
 * by step, a list of what the steps of a run replaced, and differences backward, which are kept as
 * instructions and followed from the mirror on. A thing is a text: "-" for nothing, "F" or "L", the
 * digit of its rights, and its numbers.
 */
final class LiteralModel {
    private static final String NOTHING = "-";
    private static final String KINDS = "-FL";

    private final String[] live = new String[6];
    private final String[] mirror = new String[6];
    private final List<String> replaced = new ArrayList<>();
    private final List<Integer> replacedAt = new ArrayList<>();
    /** By date and place, the difference: "r" rights or "=", and "-", "L" to, "F" and pieces. */
    private final Map<Integer, Map<Integer, String>> differences = new HashMap<>();
    private boolean broken = false;
    private int last = 0;
    private int oldest = 0;

    LiteralModel() {
        for (int place = 0; place < 6; place++) {
            live[place] = NOTHING;
            mirror[place] = NOTHING;
        }
    }

    int makeFile(int place) {
        index(place < 0 || place > 5);
        return replace(place, "F0");
    }

    int makeLink(int place, int to) {
        index(place < 0 || place > 5 || to < 0 || to > 5);
        return replace(place, "L0" + to);
    }

    int remove(int place) {
        index(place < 0 || place > 5);
        return replace(place, NOTHING);
    }

    private int replace(int place, String thing) {
        int before = KINDS.indexOf(live[place].charAt(0));
        live[place] = thing;
        return before;
    }

    int put(int place, int spot, int number) {
        index(place < 0 || place > 5);
        String thing = live[place];
        state(!thing.startsWith("F") || thing.length() == 14);
        argument(spot < 0 || spot > thing.length() - 2 || number < 0 || number > 9);
        live[place] = thing.substring(0, spot + 2) + number + thing.substring(spot + 2);
        return thing.length() - 1;
    }

    int take(int place, int spot) {
        index(place < 0 || place > 5);
        String thing = live[place];
        state(!thing.startsWith("F"));
        argument(spot < 0 || spot > thing.length() - 3);
        live[place] = thing.substring(0, spot + 2) + thing.substring(spot + 3);
        return thing.charAt(spot + 2) - '0';
    }

    int setRights(int place, int rights) {
        index(place < 0 || place > 5);
        String thing = live[place];
        state(thing.equals(NOTHING));
        argument(rights < 0 || rights > 7);
        live[place] = thing.substring(0, 1) + rights + thing.substring(2);
        return rights(thing);
    }

    int run(int steps) {
        argument(steps < 0 || steps > 6);
        state(last == 40);
        mend();
        Map<Integer, String> made = new HashMap<>();
        for (int place = 0; place < 6; place++) {
            if (mirror[place].equals(live[place])) {
                continue;
            }
            if (replaced.size() == steps) {
                broken = true;
                return -1;
            }
            replaced.add(mirror[place]);
            replacedAt.add(place);
            made.put(place, difference(mirror[place], live[place]));
            mirror[place] = live[place];
        }
        replaced.clear();
        replacedAt.clear();
        differences.put(last, made);
        last++;
        return last;
    }

    int mend() {
        int undone = replaced.size();
        for (int i = undone - 1; i >= 0; i--) {
            mirror[replacedAt.get(i)] = replaced.get(i);
        }
        replaced.clear();
        replacedAt.clear();
        broken = false;
        return undone;
    }

    int thin(int dates) {
        argument(dates < 1 || dates > 40);
        state(last - oldest < dates);
        mend();
        for (int i = 0; i < dates; i++) {
            differences.remove(oldest);
            oldest++;
        }
        return oldest;
    }

    int restore(int date) {
        index(date < oldest || date > last);
        mend();
        int changed = 0;
        for (int place = 0; place < 6; place++) {
            String thing = thingAt(date, place);
            changed += thing.equals(live[place]) ? 0 : 1;
            live[place] = thing;
        }
        return changed;
    }

    int last() {
        return last;
    }

    int oldest() {
        return oldest;
    }

    int isBroken() {
        return broken ? 1 : 0;
    }

    int needs() {
        int steps = 0;
        for (int place = 0; place < 6; place++) {
            steps += thingAt(last, place).equals(live[place]) ? 0 : 1;
        }
        return steps;
    }

    int kindAt(int date, int place) {
        return KINDS.indexOf(asked(date, place).charAt(0));
    }

    int numberAt(int date, int place, int spot) {
        String thing = asked(date, place);
        index(spot < 0 || spot > 11);
        return spot + 2 < thing.length() ? thing.charAt(spot + 2) - '0' : -1;
    }

    int rightsAt(int date, int place) {
        return rights(asked(date, place));
    }

    int sizeAt(int date, int place) {
        index(date < oldest || date > last || place < 0 || place > 5);
        return takes(date, place);
    }

    int size() {
        int taken = 0;
        for (int date = oldest; date < last; date++) {
            for (int place = 0; place < 6; place++) {
                taken += takes(date, place);
            }
        }
        return taken;
    }

    private String asked(int date, int place) {
        index(date != -1 && (date < oldest || date > last) || place < 0 || place > 5);
        return date == -1 ? live[place] : thingAt(date, place);
    }

    /** From the mirror, its broken run's steps undone, along the chain of differences. */
    private String thingAt(int date, int place) {
        int undone = replacedAt.indexOf(place);
        String thing = undone < 0 ? mirror[place] : replaced.get(undone);
        for (int next = last - 1; next >= date; next--) {
            String difference = differences.get(next).get(place);
            thing = difference == null ? thing : followed(difference, thing);
        }
        return thing;
    }

    private static int rights(String thing) {
        return thing.equals(NOTHING) ? 0 : thing.charAt(1) - '0';
    }

    /** Pieces of a file found in another one: "c" from length, as two letters, or "n" number. */
    private static String difference(String older, String newer) {
        String rights = rights(older) == rights(newer) ? "=" : String.valueOf(rights(older));
        if (!older.startsWith("F") || !newer.startsWith("F")) {
            return rights + "w" + older.charAt(0) + older.substring(Math.min(2, older.length()));
        }
        StringBuilder pieces = new StringBuilder(rights).append('f');
        String from = newer.substring(2);
        String rest = older.substring(2);
        while (!rest.isEmpty()) {
            int length = rest.length();
            while (!from.contains(rest.substring(0, length))) {
                length--;
            }
            if (length < 3) {
                pieces.append('n').append(rest.charAt(0));
                rest = rest.substring(1);
            } else {
                int start = from.indexOf(rest.substring(0, length));
                pieces.append('c').append((char) ('a' + start)).append((char) ('a' + length));
                rest = rest.substring(length);
            }
        }
        return pieces.toString();
    }

    private static String followed(String difference, String newer) {
        char told = difference.charAt(0);
        int rights = told == '=' ? rights(newer) : told - '0';
        if (difference.charAt(1) == 'w') {
            char kind = difference.charAt(2);
            return kind == '-' ? NOTHING : kind + String.valueOf(rights) + difference.substring(3);
        }
        StringBuilder older = new StringBuilder("F").append(rights);
        for (int i = 2; i < difference.length(); i += 2) {
            if (difference.charAt(i) == 'n') {
                older.append(difference.charAt(i + 1));
            } else {
                int start = difference.charAt(i + 1) - 'a' + 2;
                older.append(newer, start, start + difference.charAt(i + 2) - 'a');
                i++;
            }
        }
        return older.toString();
    }

    private int takes(int date, int place) {
        String difference = date == last ? null : differences.get(date).get(place);
        if (difference == null) {
            return 0;
        }
        int taken = difference.charAt(0) == '=' ? 0 : 1;
        if (difference.charAt(1) == 'w') {
            return taken + (difference.charAt(2) == 'F' ? difference.length() - 3 : 0) + 1;
        }
        for (int i = 2; i < difference.length(); i++) {
            taken += difference.charAt(i) == 'c' && isPiece(difference, i) ? 2 : 0;
            taken += difference.charAt(i) == 'n' && isPiece(difference, i) ? 1 : 0;
        }
        return taken;
    }

    /** Whether a piece begins there, and not the letter of a start or a length. */
    private static boolean isPiece(String difference, int spot) {
        int i = 2;
        while (i < spot) {
            i += difference.charAt(i) == 'c' ? 3 : 2;
        }
        return i == spot;
    }

    private static void index(boolean wrong) {
        if (wrong) {
            throw new IndexOutOfBoundsException();
        }
    }

    private static void state(boolean wrong) {
        if (wrong) {
            throw new IllegalStateException();
        }
    }

    private static void argument(boolean wrong) {
        if (wrong) {
            throw new IllegalArgumentException();
        }
    }
}
