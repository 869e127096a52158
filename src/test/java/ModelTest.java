/** Runs of 512 calls, the same ones each time, on the class and on the literal model side by side. */
public final class ModelTest {
    private static final int RUNS = 3000;
    private static final int CALLS = 512;
    private static final String[] NAMES = {
        "makeFile", "makeLink", "remove", "put", "take", "setRights", "run", "mend", "thin", "restore",
        "last", "oldest", "isBroken", "needs", "kindAt", "numberAt", "rightsAt", "sizeAt", "size",
    };
    /** How often each call is made, of 100; the second row makes more dates, and thins less. */
    private static final int[][] OFTEN = {
        {4, 3, 3, 28, 8, 5, 12, 3, 1, 4, 1, 1, 3, 3, 3, 4, 3, 7, 4},
        {3, 2, 1, 16, 12, 4, 9, 1, 0, 3, 1, 1, 2, 2, 5, 12, 5, 16, 5},
    };

    private final Numbers random;
    private final BackMirror mirror = new BackMirror();
    private final LiteralModel model = new LiteralModel();
    private final int[] often;
    /** Few numbers make rows that are found again. */
    private final int numbers;
    private final int places;

    private ModelTest(int run) {
        random = new Numbers(run);
        often = OFTEN[run % OFTEN.length];
        numbers = 2 + random.below(9);
        places = 1 + random.below(6);
    }

    public static void main(String[] args) {
        Checks checks = new Checks();
        for (int run = 0; run < RUNS; run++) {
            new ModelTest(run).compare(checks, run);
        }
        checks.end();
    }

    private void compare(Checks checks, int run) {
        for (int i = 0; i < CALLS; i++) {
            int call = pick();
            int a = first(call);
            int b = second(call);
            int c = third(call);
            String due = Checks.outcome(() -> asked(model, call, a, b, c));
            String got = Checks.outcome(() -> asked(mirror, call, a, b, c));
            if (!due.equals(got)) {
                checks.answers("run " + run + ", call " + i + ", " + NAMES[call] + "(" + a + ", " + b + ", " + c + ")", due, got);
                return;
            }
        }
    }

    private int pick() {
        int left = random.below(100);
        int call = 0;
        while (call < often.length - 1 && left >= often[call]) {
            left -= often[call];
            call++;
        }
        return call;
    }

    /** In range for the most part, else just beside it or far away. */
    private int near(int least, int most) {
        int sort = random.below(40);
        return switch (sort) {
            case 0 -> least - 1;
            case 1 -> most + 1;
            case 2 -> random.next();
            default -> least + random.below(Math.max(1, most - least + 1));
        };
    }

    private int first(int call) {
        return switch (NAMES[call]) {
            case "run" -> random.below(2) == 0 ? 6 : near(0, 6);
            case "thin" -> near(1, random.below(2) == 0 ? 3 : 40);
            case "restore", "sizeAt" -> near(model.oldest(), model.last());
            case "kindAt", "numberAt", "rightsAt" -> random.below(4) == 0 ? -1 : near(model.oldest(), model.last());
            default -> near(0, random.below(20) == 0 ? 5 : places - 1);
        };
    }

    private int second(int call) {
        return switch (NAMES[call]) {
            case "makeLink" -> near(0, 5);
            case "put", "take" -> near(0, random.below(2) == 0 ? 3 : 12);
            case "setRights" -> near(0, 7);
            default -> near(0, places - 1);
        };
    }

    private int third(int call) {
        return NAMES[call].equals("put") ? near(0, numbers - 1) : near(0, 11);
    }

    private static long asked(BackMirror mirror, int call, int a, int b, int c) {
        return switch (NAMES[call]) {
            case "makeFile" -> mirror.makeFile(a);
            case "makeLink" -> mirror.makeLink(a, b);
            case "remove" -> mirror.remove(a);
            case "put" -> mirror.put(a, b, c);
            case "take" -> mirror.take(a, b);
            case "setRights" -> mirror.setRights(a, b);
            case "run" -> mirror.run(a);
            case "mend" -> mirror.mend();
            case "thin" -> mirror.thin(a);
            case "restore" -> mirror.restore(a);
            case "last" -> mirror.last();
            case "oldest" -> mirror.oldest();
            case "isBroken" -> mirror.isBroken() ? 1 : 0;
            case "needs" -> mirror.needs();
            case "kindAt" -> mirror.kindAt(a, b);
            case "numberAt" -> mirror.numberAt(a, b, c);
            case "rightsAt" -> mirror.rightsAt(a, b);
            case "sizeAt" -> mirror.sizeAt(a, b);
            default -> mirror.size();
        };
    }

    private static long asked(LiteralModel model, int call, int a, int b, int c) {
        return switch (NAMES[call]) {
            case "makeFile" -> model.makeFile(a);
            case "makeLink" -> model.makeLink(a, b);
            case "remove" -> model.remove(a);
            case "put" -> model.put(a, b, c);
            case "take" -> model.take(a, b);
            case "setRights" -> model.setRights(a, b);
            case "run" -> model.run(a);
            case "mend" -> model.mend();
            case "thin" -> model.thin(a);
            case "restore" -> model.restore(a);
            case "last" -> model.last();
            case "oldest" -> model.oldest();
            case "isBroken" -> model.isBroken();
            case "needs" -> model.needs();
            case "kindAt" -> model.kindAt(a, b);
            case "numberAt" -> model.numberAt(a, b, c);
            case "rightsAt" -> model.rightsAt(a, b);
            case "sizeAt" -> model.sizeAt(a, b);
            default -> model.size();
        };
    }

    /** A row of numbers that look mixed, and are the same ones for the same seed. */
    private static final class Numbers {
        private long state;

        Numbers(int seed) {
            state = seed * 0x9E3779B97F4A7C15L + 1;
        }

        int next() {
            state = state * 6364136223846793005L + 1442695040888963407L;
            return (int) (state >>> 32);
        }

        int below(int bound) {
            return (int) (((next() & 0xFFFFFFFFL) * bound) >>> 32);
        }
    }
}
