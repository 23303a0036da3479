/** Promises 8 to 13. */
public final class RostersTest {

    private static final int[] WILD = {Integer.MIN_VALUE, -1, Integer.MAX_VALUE};

    public static void main(String[] args) {
        promise8Enrol();
        promise9Change();
        promise10Roster();
        promise11Ahead();
        promise12House();
        promise13Pump();
        Check.finish("RostersTest");
    }

    private static PumpRoster villageOf(int houses, int pumps) {
        PumpRoster x = new PumpRoster();
        for (int i = 0; i < houses; i++) {
            x.addHouse(i, 9 - i, 1 + i % 9);
        }
        for (int i = 0; i < pumps; i++) {
            x.addPump(100, 10);
        }
        return x;
    }

    private static void promise8Enrol() {
        PumpRoster x = villageOf(10, 2);
        for (int i = 0; i < 10; i++) {
            Check.due("enrol(0, " + (9 - i) + ")", x.enrol(0, 9 - i), i + 1);
        }
        for (int i = 0; i < 10; i++) {
            Check.due("roster(0, " + i + ")", x.roster(0, i), 9 - i);
            int house = i;
            Check.dueThrow("enrol(0, " + i + ") again", x, IllegalStateException.class, () -> x.enrol(0, house));
        }
        Check.due("enrol(1, 4), another roster", x.enrol(1, 4), 1);
        Check.dueThrow("enrol(2, 0)", x, IndexOutOfBoundsException.class, () -> x.enrol(2, 0));
        Check.dueThrow("enrol(1, 10)", x, IndexOutOfBoundsException.class, () -> x.enrol(1, 10));
        Check.dueThrow("enrol(2, 4)", x, IndexOutOfBoundsException.class, () -> x.enrol(2, 4));
        for (int w : WILD) {
            Check.dueThrow("enrol(" + w + ", 0)", x, IndexOutOfBoundsException.class, () -> x.enrol(w, 0));
            Check.dueThrow("enrol(1, " + w + ")", x, IndexOutOfBoundsException.class, () -> x.enrol(1, w));
        }
        x.fine(7, 50);
        x.fine(7, 50);
        Check.due("enrol(1, 7) with 2 marks", x.enrol(1, 7), 2);
        x.fine(7, 50);
        Check.dueThrow("enrol(1, 7) with 3 marks", x, IllegalStateException.class, () -> x.enrol(1, 7));
        Check.due("it is on no roster", x.ahead(1, 7), -1);
    }

    private static void promise9Change() {
        PumpRoster x = villageOf(4, 2);
        for (int i = 0; i < 4; i++) {
            x.enrol(0, i);
        }
        x.pass(1);
        Check.due("change(0, 1, 3)", x.change(0, 1, 3), 3);
        Check.due("the turn stays", x.pump(0, 7), 1);
        Check.due("change(0, 0, 2)", x.change(0, 0, 2), 3);
        Check.due("change(0, 1, 1)", x.change(0, 1, 1), 3);
        int[] row = {2, 3, 0, 1};
        for (int i = 0; i < 4; i++) {
            Check.due("roster(0, " + i + ")", x.roster(0, i), row[i]);
        }
        Check.dueThrow("change(1, 0, 0), empty", x, IndexOutOfBoundsException.class, () -> x.change(1, 0, 0));
        Check.dueThrow("change(2, 0, 0)", x, IndexOutOfBoundsException.class, () -> x.change(2, 0, 0));
        Check.dueThrow("change(0, 4, 0)", x, IndexOutOfBoundsException.class, () -> x.change(0, 4, 0));
        Check.dueThrow("change(0, 0, 4)", x, IndexOutOfBoundsException.class, () -> x.change(0, 0, 4));
        for (int w : WILD) {
            Check.dueThrow("change(" + w + ", 0, 0)", x, IndexOutOfBoundsException.class, () -> x.change(w, 0, 0));
            Check.dueThrow("change(0, " + w + ", 0)", x, IndexOutOfBoundsException.class, () -> x.change(0, w, 0));
            Check.dueThrow("change(0, 0, " + w + ")", x, IndexOutOfBoundsException.class, () -> x.change(0, 0, w));
        }
    }

    private static void promise10Roster() {
        PumpRoster x = villageOf(3, 2);
        x.enrol(1, 2);
        x.enrol(1, 0);
        Check.due("roster(1, 0)", x.roster(1, 0), 2);
        Check.due("roster(1, 1)", x.roster(1, 1), 0);
        Check.dueThrow("roster(1, 2)", x, IndexOutOfBoundsException.class, () -> x.roster(1, 2));
        Check.dueThrow("roster(0, 0)", x, IndexOutOfBoundsException.class, () -> x.roster(0, 0));
        Check.dueThrow("roster(2, 0)", x, IndexOutOfBoundsException.class, () -> x.roster(2, 0));
        for (int w : WILD) {
            Check.dueThrow("roster(" + w + ", 0)", x, IndexOutOfBoundsException.class, () -> x.roster(w, 0));
            Check.dueThrow("roster(1, " + w + ")", x, IndexOutOfBoundsException.class, () -> x.roster(1, w));
        }
    }

    private static void promise11Ahead() {
        PumpRoster x = villageOf(5, 2);
        for (int i = 0; i < 4; i++) {
            x.enrol(0, i);
        }
        x.pass(2);
        int[] ahead = {2, 3, 0, 1, -1};
        for (int house = 0; house < 5; house++) {
            Check.due("ahead(0, " + house + ")", x.ahead(0, house), ahead[house]);
            Check.due("ahead(1, " + house + ")", x.ahead(1, house), -1);
        }
        x.leave(2, 30);
        Check.due("ahead(0, 3) counts the one that is away", x.ahead(0, 3), 1);
        Check.dueThrow("ahead(2, 0)", x, IndexOutOfBoundsException.class, () -> x.ahead(2, 0));
        Check.dueThrow("ahead(0, 5)", x, IndexOutOfBoundsException.class, () -> x.ahead(0, 5));
        for (int w : WILD) {
            Check.dueThrow("ahead(" + w + ", 0)", x, IndexOutOfBoundsException.class, () -> x.ahead(w, 0));
            Check.dueThrow("ahead(0, " + w + ")", x, IndexOutOfBoundsException.class, () -> x.ahead(0, w));
        }
    }

    private static void promise12House() {
        // House 0 forgets each second key, and hands on none when away.
        PumpRoster x = new PumpRoster();
        x.addHouse(3, 2, 2);
        x.addHouse(1, 0, 9);
        x.addPump(6, 0);
        x.addPump(0, 0);
        x.addPump(0, 0);
        x.prefer(0, 2);
        x.enrol(0, 0);
        x.enrol(0, 1);
        x.enrol(1, 0);
        x.enrol(1, 1);
        x.pass(1);
        // Day 0: the keys 0 and 1 to house 0; it draws 5 of 5, house 1 one of 3.
        dueHouse(x, 0, 3, 2, 12, 0, 0, 2, 2, 0, 0, 0, 2);
        dueHouse(x, 1, 1, 0, 10, 0, 0, 0, 0, 2, 0, 0, 0);
        x.pass(1);
        // Day 1: house 0 hands on the first key, and forgets the second.
        dueHouse(x, 0, 3, 2, 11, 0, 0, 2, 2, 5, 2, 3, 1);
        dueHouse(x, 1, 1, 0, 10, 0, 0, 0, 1, 5, 0, 0, 1);
        x.leave(0, 2);
        x.pass(1);
        // Day 2: house 1 has the duties; house 0 is away with the key 1, and pays, with no key counted.
        dueHouse(x, 0, 3, 2, 8, 0, 1, 2, 2, 5, 2, 6, 1);
        dueHouse(x, 1, 1, 0, 10, 0, 0, 0, 2, 8, 0, 0, 1);
        x.fine(0, 50);
        dueHouse(x, 0, 3, 2, 0, 1, 1, 2, 2, 5, 2, 56, 1);
        for (int w : new int[] {Integer.MIN_VALUE, -1, 11, Integer.MAX_VALUE}) {
            Check.dueThrow("house(0, " + w + ")", x, IndexOutOfBoundsException.class, () -> x.house(0, w));
        }
        for (int w : new int[] {Integer.MIN_VALUE, -1, 2, Integer.MAX_VALUE}) {
            Check.dueThrow("house(" + w + ", 0)", x, IndexOutOfBoundsException.class, () -> x.house(w, 0));
        }
    }

    private static void dueHouse(PumpRoster x, int house, int... facts) {
        for (int what = 0; what < facts.length; what++) {
            Check.due("day " + x.count(0) + ": house(" + house + ", " + what + ")", x.house(house, what), facts[what]);
        }
    }

    private static void promise13Pump() {
        // Ten buckets a day: the handle breaks in the tenth day, on day 9, and waits for eggs from day 12 on.
        PumpRoster x = new PumpRoster();
        x.addHouse(8, 0, 9);
        x.addPump(200, 12);
        x.enrol(0, 0);
        x.pass(9);
        duePump(x, 200, 12, 90, 0, 0, 0, 1, 0, 9, 90, 0);
        x.pass(1);
        duePump(x, 200, 12, 100, 1, 3, 0, 1, 0, 10, 100, 0);
        x.pass(1);
        duePump(x, 200, 12, 100, 1, 2, 0, 1, 0, 11, 100, 0);
        x.pass(2);
        Check.due("the chest", x.count(3), 5);
        duePump(x, 200, 12, 100, 1, 0, 0, 1, 0, 13, 100, 0);
        x.fine(0, 4);
        x.pass(1);
        duePump(x, 200, 12, 100, 1, 0, 0, 1, 0, 14, 100, 0);
        x.fine(0, 1);
        Check.due("the chest has 10", x.count(3), 10);
        x.pass(1);
        duePump(x, 200, 12, 0, 0, 0, 0, 1, 0, 15, 100, 1);
        Check.due("the chest has paid", x.count(3), 0);
        for (int w : new int[] {Integer.MIN_VALUE, -1, 11, Integer.MAX_VALUE}) {
            Check.dueThrow("pump(0, " + w + ")", x, IndexOutOfBoundsException.class, () -> x.pump(0, w));
        }
        for (int w : new int[] {Integer.MIN_VALUE, -1, 1, Integer.MAX_VALUE}) {
            Check.dueThrow("pump(" + w + ", 0)", x, IndexOutOfBoundsException.class, () -> x.pump(w, 0));
        }
    }

    private static void duePump(PumpRoster x, int... facts) {
        for (int what = 0; what < facts.length; what++) {
            Check.due("day " + x.count(0) + ": pump(0, " + what + ")", x.pump(0, what), facts[what]);
        }
    }
}
