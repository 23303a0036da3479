import java.util.ArrayList;
import java.util.Arrays;
import java.util.List;

/** A second telling of the document, in other words than the class: lists, and the facts as rows of numbers. */
final class SecondVillage {

    // The facts by the document's own numbers.
    static final int LODGERS = 0;
    static final int HENS = 1;
    static final int EGGS = 2;
    static final int MARKS = 3;
    static final int AWAY = 4;
    static final int FIRST = 5;
    static final int DUTIES = 6;
    static final int THIRST = 7;
    static final int KEYS = 8;
    static final int FINES = 9;
    static final int LEVEL = 0;
    static final int INFLOW = 1;
    static final int WEAR = 2;
    static final int BROKEN = 3;
    static final int WAITS = 4;
    static final int KEY = 5;
    static final int TURN = 7;
    static final int OPENED = 8;
    static final int DRAWN = 9;
    static final int MENDED = 10;

    final List<int[]> houses = new ArrayList<>();
    final List<Integer> forgets = new ArrayList<>();
    final List<int[]> pumps = new ArrayList<>();
    final List<List<Integer>> rosters = new ArrayList<>();
    int chest = 0;
    int day = 0;

    SecondVillage copy() {
        SecondVillage c = new SecondVillage();
        for (int[] h : houses) {
            c.houses.add(h.clone());
        }
        c.forgets.addAll(forgets);
        for (int[] p : pumps) {
            c.pumps.add(p.clone());
        }
        for (List<Integer> r : rosters) {
            c.rosters.add(new ArrayList<>(r));
        }
        c.chest = chest;
        c.day = day;
        return c;
    }

    // The calls, by the numbers that SecondVillageTest gives them.
    double answer(int call, int a, int b, int c) {
        switch (call) {
            case 0: return addHouse(a, b, c);
            case 1: return addPump(a, b);
            case 2: house(a); argument(b, 0, 9); return set(houses.get(a), LODGERS, b);
            case 3: house(a); pump(b); return set(houses.get(a), FIRST, b);
            case 4: house(a); argument(b, 0, 30); return set(houses.get(a), AWAY, b);
            case 5: house(a); argument(b, 1, 50); return pay(a, b);
            case 6: return enrol(a, b);
            case 7: return change(a, b, c);
            case 8: pump(a); index(b, rosters.get(a).size()); return rosters.get(a).get(b);
            case 9: return ahead(a, b);
            case 10: house(a); index(b, 11); return houseFact(a, b);
            case 11: pump(a); index(b, 11); return pumpFact(a, b);
            case 12: argument(a, 1, 100); return pass(a);
            case 13: index(a, 10); return count(a);
            case 14: argument(a, 1, 100); index(b, 4); return foresee(a, b);
            case 15: house(a); argument(b, 1, 50); return advise(a, b);
            case 16: pump(a); return unfair(a);
            default: return day == 0 ? 0 : 1.0 * sum(pumps, DRAWN) / day;
        }
    }

    private static void argument(int x, int least, int most) {
        if (x < least || x > most) {
            throw new IllegalArgumentException();
        }
    }

    private static void index(int x, int size) {
        if (x < 0 || x >= size) {
            throw new IndexOutOfBoundsException();
        }
    }

    private void house(int h) {
        index(h, houses.size());
    }

    private void pump(int p) {
        index(p, pumps.size());
    }

    private static int set(int[] row, int at, int to) {
        int was = row[at];
        row[at] = to;
        return was;
    }

    private int addHouse(int lodgers, int hens, int forgetsEach) {
        argument(lodgers, 0, 9);
        argument(hens, 0, 9);
        argument(forgetsEach, 1, 9);
        if (houses.size() == 10) {
            throw new IllegalStateException();
        }
        houses.add(new int[] {lodgers, hens, 10, 0, 0, 0, 0, 0, 0, 0});
        forgets.add(forgetsEach);
        return houses.size() - 1;
    }

    private int addPump(int level, int inflow) {
        argument(level, 0, 200);
        argument(inflow, 0, 50);
        if (pumps.size() == 3) {
            throw new IllegalStateException();
        }
        pumps.add(new int[] {level, inflow, 0, 0, 0, -1, -99, 0, 0, 0, 0});
        rosters.add(new ArrayList<>());
        return pumps.size() - 1;
    }

    private int enrol(int p, int h) {
        pump(p);
        house(h);
        if (rosters.get(p).contains(h) || houses.get(h)[MARKS] == 3) {
            throw new IllegalStateException();
        }
        rosters.get(p).add(h);
        return rosters.get(p).size();
    }

    private int change(int p, int a, int b) {
        pump(p);
        List<Integer> row = rosters.get(p);
        index(a, row.size());
        index(b, row.size());
        Integer atA = row.get(a);
        row.set(a, row.get(b));
        row.set(b, atA);
        return row.get(pumps.get(p)[TURN]);
    }

    private int ahead(int p, int h) {
        pump(p);
        house(h);
        List<Integer> row = rosters.get(p);
        if (!row.contains(h)) {
            return -1;
        }
        int others = 0;
        int at = pumps.get(p)[TURN];
        while (row.get(at) != h) {
            others++;
            at = (at + 1) % row.size();
        }
        return others;
    }

    int houseFact(int h, int what) {
        if (what < 10) {
            return houses.get(h)[what];
        }
        return (int) pumps.stream().filter(p -> p[KEY] == h).count();
    }

    int pumpFact(int p, int what) {
        return what == 6 ? rosters.get(p).size() : pumps.get(p)[what];
    }

    private static int sum(List<int[]> rows, int at) {
        return rows.stream().mapToInt(row -> row[at]).sum();
    }

    int count(int what) {
        int away = (int) houses.stream().filter(h -> h[AWAY] > 0).count();
        int need = houses.stream().filter(h -> h[AWAY] == 0).mapToInt(h -> 2 + h[LODGERS]).sum();
        int[] told = {day, houses.size(), pumps.size(), chest, sum(houses, EGGS), away, sum(houses, MARKS),
            sum(houses, THIRST), need, sum(pumps, BROKEN)};
        return told[what];
    }

    private int foresee(int days, int what) {
        SecondVillage then = copy();
        then.pass(days);
        int[] told = {then.count(7) - count(7), then.chest, then.count(6), then.count(9)};
        return told[what];
    }

    private int advise(int h, int days) {
        int[] thirst = new int[pumps.size()];
        for (int p = 0; p < thirst.length; p++) {
            SecondVillage then = copy();
            then.houses.get(h)[FIRST] = p;
            then.pass(days);
            thirst[p] = then.count(7) - count(7);
        }
        int least = Arrays.stream(thirst).min().orElse(0);
        for (int p = 0; p < thirst.length; p++) {
            if (thirst[p] == least) {
                return p;
            }
        }
        return -1;
    }

    private int unfair(int p) {
        List<Integer> row = rosters.get(p);
        int most = row.stream().mapToInt(h -> houses.get(h)[DUTIES]).max().orElse(0);
        int fewest = row.stream().mapToInt(h -> houses.get(h)[DUTIES]).min().orElse(0);
        return most - fewest;
    }

    long digest() {
        List<Integer> told = new ArrayList<>();
        for (int what = 0; what < 10; what++) {
            told.add(count(what));
        }
        for (int h = 0; h < houses.size(); h++) {
            for (int what = 0; what < 11; what++) {
                told.add(houseFact(h, what));
            }
        }
        for (int p = 0; p < pumps.size(); p++) {
            for (int what = 0; what < 11; what++) {
                told.add(pumpFact(p, what));
            }
            told.addAll(rosters.get(p));
        }
        long d = 577;
        for (int x : told) {
            d = d * 31 + x;
        }
        return d;
    }

    private int pay(int h, int eggs) {
        int[] row = houses.get(h);
        row[FINES] += eggs;
        if (row[EGGS] >= eggs) {
            row[EGGS] -= eggs;
            chest += eggs;
            return eggs;
        }
        int paid = row[EGGS];
        chest += paid;
        row[EGGS] = 0;
        if (row[MARKS] < 3) {
            row[MARKS]++;
            if (row[MARKS] == 3) {
                for (int p = 0; p < pumps.size(); p++) {
                    leaveRoster(p, h);
                }
            }
        }
        return paid;
    }

    private void leaveRoster(int p, int h) {
        List<Integer> row = rosters.get(p);
        if (!row.contains(h)) {
            return;
        }
        int turn = pumps.get(p)[TURN];
        // The turn stays with the house that it points at, or goes to the one behind the house that leaves.
        Integer pointed = row.get(turn) != h ? row.get(turn) : turn + 1 < row.size() ? row.get(turn + 1) : null;
        row.remove(Integer.valueOf(h));
        pumps.get(p)[TURN] = pointed == null ? 0 : row.indexOf(pointed);
    }

    private int pass(int days) {
        int before = sum(pumps, DRAWN);
        for (int i = 0; i < days; i++) {
            oneDay();
        }
        return sum(pumps, DRAWN) - before;
    }

    private void oneDay() {
        boolean[] open = new boolean[3];
        boolean[] brokeNow = new boolean[3];
        houses.stream().filter(h -> h[AWAY] == 0).forEach(h -> h[EGGS] += h[HENS]);
        for (int p = 0; p < pumps.size(); p++) {
            open[p] = opens(p);
            if (open[p]) {
                pumps.get(p)[OPENED]++;
                houses.get(pumps.get(p)[KEY])[DUTIES]++;
            }
        }
        for (int h = 0; h < houses.size(); h++) {
            if (houses.get(h)[AWAY] == 0) {
                draw(h, open, brokeNow);
            }
        }
        for (int p = 0; p < pumps.size(); p++) {
            int[] row = pumps.get(p);
            if (row[BROKEN] == 1 && !brokeNow[p]) {
                row[WAITS] = Math.max(0, row[WAITS] - 1);
                if (row[WAITS] == 0 && chest >= 10) {
                    chest -= 10;
                    row[BROKEN] = 0;
                    row[WEAR] = 0;
                    row[MENDED]++;
                }
            }
            row[LEVEL] = Math.min(200, row[LEVEL] + row[INFLOW]);
        }
        int n = (int) houses.stream().filter(h -> h[MARKS] == 0).count();
        if (day % 7 == 6 && chest > 20 && n > 0) {
            int each = (chest - 20) / n;
            houses.stream().filter(h -> h[MARKS] == 0).forEach(h -> h[EGGS] += each);
            chest -= each * n;
        }
        houses.forEach(h -> h[AWAY] = Math.max(0, h[AWAY] - 1));
        day++;
    }

    private boolean opens(int p) {
        int[] row = pumps.get(p);
        List<Integer> roster = rosters.get(p);
        int duty = -1;
        for (int i = 0; i < roster.size() && duty < 0; i++) {
            int at = (row[TURN] + i) % roster.size();
            if (houses.get(roster.get(at))[AWAY] == 0) {
                duty = roster.get(at);
                row[TURN] = (at + 1) % roster.size();
                break;
            }
        }
        if (duty < 0) {
            return false;
        }
        int holder = row[KEY];
        boolean handedOn = holder == -1 || holder == duty;
        if (!handedOn && houses.get(holder)[AWAY] == 0) {
            houses.get(holder)[KEYS]++;
            handedOn = houses.get(holder)[KEYS] % forgets.get(holder) != 0;
        }
        if (handedOn) {
            row[KEY] = duty;
        } else {
            pay(holder, 3);
        }
        return handedOn;
    }

    private void draw(int h, boolean[] open, boolean[] brokeNow) {
        int need = 2 + houses.get(h)[LODGERS];
        for (int k = 0; k < pumps.size(); k++) {
            int p = (houses.get(h)[FIRST] + k) % pumps.size();
            int[] row = pumps.get(p);
            if (open[p] && row[BROKEN] == 0 && row[LEVEL] > 0 && need > 0) {
                int buckets = need <= row[LEVEL] ? need : row[LEVEL];
                row[LEVEL] -= buckets;
                row[DRAWN] += buckets;
                row[WEAR] += buckets;
                need -= buckets;
                if (row[WEAR] >= 100) {
                    row[BROKEN] = 1;
                    row[WAITS] = 3;
                    brokeNow[p] = true;
                    pay(h, 5);
                }
            }
        }
        houses.get(h)[THIRST] += need;
    }
}
