import java.util.function.Supplier;

/** What every test uses: it compares answers, prints the wrong ones, and ends with how many. */
final class Checks {
    interface Call {
        long answer();
    }

    interface CallOn {
        long answer(BackMirror mirror);
    }

    private static final int HIGHEST_SPOT = 11;
    private int wrong = 0;
    private String sentence = "";

    /** What the document says and the checks behind this call hold; told with each wrong answer. */
    void sentence(String text) {
        sentence = text + ": ";
    }

    void answers(String what, long due, long got) {
        if (due != got) {
            report(what + " answered " + got + ", due is " + due);
        }
    }

    void answers(String what, String due, String got) {
        if (!due.equals(got)) {
            report(what + " is\n" + got + "\ndue is\n" + due);
        }
    }

    void holds(String what, boolean got) {
        if (!got) {
            report(what + " does not hold");
        }
    }

    /** The call must throw just this class, not one below it. */
    void isRefused(String what, Class<? extends RuntimeException> due, Call call) {
        String got = outcome(call);
        if (!got.equals(due.getName())) {
            report(what + " ended with " + got + ", due is " + due.getName());
        }
    }

    /** Refused as above, and all that can be seen afterwards is as it is without the call. */
    void isRefusedUnchanged(
            String what,
            Class<? extends RuntimeException> due,
            Supplier<BackMirror> made,
            CallOn call) {
        BackMirror mirror = made.get();
        isRefused(what, due, () -> call.answer(mirror));
        answers(what + ": what is seen behind it", picture(made.get()), picture(mirror));
    }

    /** Refused, and nothing changed, in every sort of state. */
    void isRefusedEverywhere(String what, Class<? extends RuntimeException> due, CallOn call) {
        for (States.State state : States.ALL) {
            isRefusedUnchanged(what + ", " + state.name(), due, state.made(), call);
        }
    }

    /** An answer as a text; behind a throw, the name of the class that was thrown. */
    static String outcome(Call call) {
        try {
            return Long.toString(call.answer());
        } catch (RuntimeException e) {
            return e.getClass().getName();
        }
    }

    /**
     * All that can be seen of a mirror, the steps of a broken run last: asking for those mends it,
     * so that the mirror is not used any more.
     */
    static String picture(BackMirror mirror) {
        StringBuilder text = new StringBuilder();
        text.append("dates ").append(mirror.oldest()).append(" to ").append(mirror.last());
        text.append(mirror.isBroken() ? ", broken" : ", whole");
        text.append(", needs ").append(mirror.needs());
        text.append(", size ").append(mirror.size()).append('\n');
        text.append("live").append(tree(mirror, BackMirror.NONE)).append('\n');
        for (int date = mirror.oldest(); date <= mirror.last(); date++) {
            text.append("date ").append(date).append(tree(mirror, date));
            text.append(" takes");
            for (int place = 0; place <= 5; place++) {
                text.append(' ').append(mirror.sizeAt(date, place));
            }
            text.append('\n');
        }
        return text.append("undone ").append(mirror.mend()).toString();
    }

    static String tree(BackMirror mirror, int date) {
        StringBuilder text = new StringBuilder();
        for (int place = 0; place <= 5; place++) {
            text.append(' ').append(thing(mirror, date, place));
        }
        return text.toString();
    }

    /** Kind, numbers and rights, as F(1,2,3)7. */
    static String thing(BackMirror mirror, int date, int place) {
        StringBuilder text = new StringBuilder();
        text.append("NFL".charAt(mirror.kindAt(date, place))).append('(');
        for (int spot = 0; spot <= HIGHEST_SPOT; spot++) {
            int number = mirror.numberAt(date, place, spot);
            if (number == BackMirror.NONE) {
                break;
            }
            text.append(spot == 0 ? "" : ",").append(number);
        }
        return text.append(')').append(mirror.rightsAt(date, place)).toString();
    }

    /** Makes a place a file with the digits as its numbers. */
    static void file(BackMirror mirror, int place, String digits) {
        mirror.makeFile(place);
        for (int i = 0; i < digits.length(); i++) {
            mirror.put(place, i, digits.charAt(i) - '0');
        }
    }

    /** Makes a place N, nothing, L5, a link, or F123, a file; behind a mark the rights, as L5/7. */
    static void make(BackMirror mirror, int place, String thing) {
        int mark = thing.indexOf('/');
        String body = mark < 0 ? thing : thing.substring(0, mark);
        switch (body.charAt(0)) {
            case 'F' -> file(mirror, place, body.substring(1));
            case 'L' -> mirror.makeLink(place, body.charAt(1) - '0');
            default -> mirror.remove(place);
        }
        if (mark >= 0) {
            mirror.setRights(place, thing.charAt(mark + 1) - '0');
        }
    }

    void end() {
        if (wrong > 0) {
            System.out.println(wrong + " wrong");
            System.exit(1);
        }
    }

    private void report(String text) {
        wrong++;
        System.out.println(sentence + text);
    }
}
