/** Long runs of calls, right and wrong ones, on the class and on the second telling of the document: all promises. */
public final class SecondVillageTest {

    private static final int RUNS = 1000;
    // With houses and pumps to begin with, and the digests, no object comes to more than 512 calls: later ones are free.
    private static final int CALLS = 440;
    private static final int[] WILD = {Integer.MIN_VALUE, -1, 0, 1, 2, 3, 9, 10, 11, 30, 31, 50, 51, 100, 101, 200, 201,
        Integer.MAX_VALUE};
    private static final String[] NAMES = {"addHouse", "addPump", "lodge", "prefer", "leave", "fine", "enrol", "change",
        "roster", "ahead", "house", "pump", "pass", "count", "foresee", "advise", "unfair", "daily"};
    // A call comes as often as its number stands here.
    private static final int[] OFTEN = {0, 1, 2, 3, 3, 4, 4, 4, 6, 6, 6, 6, 6, 6, 7, 7, 7, 8, 9, 9, 10, 11, 12, 12, 12, 12,
        12, 12, 13, 14, 14, 15, 16, 17};

    // The same numbers on each run of the test, so that what it finds is found again.
    private static long state;

    public static void main(String[] args) {
        int seenBroken = 0;
        int seenMended = 0;
        int seenMarked = 0;
        for (int run = 0; run < RUNS; run++) {
            state = run;
            PumpRoster x = new PumpRoster();
            SecondVillage y = new SecondVillage();
            settle(run, x, y);
            for (int n = 0; n < CALLS; n++) {
                compare(run, x, y, OFTEN[below(OFTEN.length)], n);
            }
            seenBroken += y.count(9);
            seenMended += y.pumps.stream().mapToInt(p -> p[SecondVillage.MENDED]).sum();
            seenMarked += y.count(6);
        }
        // Runs in which nothing happens would agree on anything.
        Check.due("enough handles broken, handles mended and marks seen",
                Math.min(seenBroken, Math.min(seenMended, seenMarked)) > RUNS / 3 ? 1 : 0, 1);
        Check.finish("SecondVillageTest");
    }

    private static int below(int bound) {
        state = state * 6364136223846793005L + 1442695040888963407L;
        return (int) ((state >>> 33) % bound);
    }

    private static void settle(int run, PumpRoster x, SecondVillage y) {
        for (int i = 0; i < run % 11; i++) {
            both(run, x, y, 0, below(10), below(10), 1 + below(9));
        }
        for (int i = 0; i < run % 4; i++) {
            both(run, x, y, 1, below(201), below(51));
        }
    }

    private static void compare(int run, PumpRoster x, SecondVillage y, int call, int n) {
        int houses = Math.max(1, y.houses.size());
        int pumps = Math.max(1, y.pumps.size());
        // In some runs days are few and fines rare, so that houses stay without marks.
        int mostDays = run % 3 == 0 ? 100 : 5;
        int mostEggs = run % 2 == 0 ? 50 : 4;
        int[][] most = {{10, 10, 9}, {201, 51, 1}, {houses, 10, 1}, {houses, pumps, 1}, {houses, 1 + run % 31, 1},
            {houses, mostEggs, 1}, {pumps, houses, 1}, {pumps, 3, 3}, {pumps, 5, 1}, {pumps, houses, 1},
            {houses, 11, 1}, {pumps, 11, 1}, {mostDays, 1, 1}, {10, 1, 1}, {100, 4, 1}, {houses, 50, 1},
            {pumps, 1, 1}, {1, 1, 1}};
        int[] given = new int[3];
        for (int i = 0; i < 3; i++) {
            given[i] = below(most[call][i]) + (countsFromOne(call, i) ? 1 : 0);
            if (below(40) == 0) {
                given[i] = WILD[below(WILD.length)];
            }
        }
        both(run, x, y, call, given);
        if (n % 8 == 0) {
            Check.due("run " + run + ": digest()", x.digest(), y.digest());
        }
    }

    private static boolean countsFromOne(int call, int argument) {
        return call == 0 && argument == 2 || call == 5 && argument == 1 || call == 12 || call == 14 && argument == 0
                || call == 15 && argument == 1;
    }

    private static void both(int run, PumpRoster x, SecondVillage y, int call, int... given) {
        int a = given[0];
        int b = given.length > 1 ? given[1] : 0;
        int c = given.length > 2 ? given[2] : 0;
        String got;
        String want;
        try {
            got = "" + answer(x, call, a, b, c);
        } catch (RuntimeException e) {
            got = e.getClass().getName();
        }
        try {
            want = "" + y.answer(call, a, b, c);
        } catch (IllegalArgumentException | IllegalStateException | IndexOutOfBoundsException e) {
            want = e.getClass().getName();
        }
        Check.dueText("run " + run + ": " + NAMES[call] + "(" + a + ", " + b + ", " + c + ")", got, want);
    }

    private static double answer(PumpRoster x, int call, int a, int b, int c) {
        switch (call) {
            case 0: return x.addHouse(a, b, c);
            case 1: return x.addPump(a, b);
            case 2: return x.lodge(a, b);
            case 3: return x.prefer(a, b);
            case 4: return x.leave(a, b);
            case 5: return x.fine(a, b);
            case 6: return x.enrol(a, b);
            case 7: return x.change(a, b, c);
            case 8: return x.roster(a, b);
            case 9: return x.ahead(a, b);
            case 10: return x.house(a, b);
            case 11: return x.pump(a, b);
            case 12: return x.pass(a);
            case 13: return x.count(a);
            case 14: return x.foresee(a, b);
            case 15: return x.advise(a, b);
            case 16: return x.unfair(a);
            default: return x.daily();
        }
    }
}
