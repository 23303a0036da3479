/** Promises 1 to 7. */
public final class HousesAndPumpsTest {

    private static final int[] WILD = {Integer.MIN_VALUE, -1, Integer.MAX_VALUE};

    public static void main(String[] args) {
        promise1NewObject();
        promise2AddHouse();
        promise3AddPump();
        promise4Lodge();
        promise5Prefer();
        promise6Leave();
        promise7Fine();
        promise7ThreeMarksLeaveAllRosters();
        promise7TheTurnWhenAHouseLeaves();
        Check.finish("HousesAndPumpsTest");
    }

    private static void promise1NewObject() {
        PumpRoster x = new PumpRoster();
        for (int what = 0; what <= 9; what++) {
            Check.due("count(" + what + ") of a new object", x.count(what), 0);
        }
        Check.dueThrow("house(0, 0) of a new object", x, IndexOutOfBoundsException.class, () -> x.house(0, 0));
        Check.dueThrow("pump(0, 0) of a new object", x, IndexOutOfBoundsException.class, () -> x.pump(0, 0));
        PumpRoster other = new PumpRoster();
        other.addHouse(1, 1, 1);
        Check.due("count(1) when another object has a house", x.count(1), 0);
    }

    private static void promise2AddHouse() {
        PumpRoster x = new PumpRoster();
        Check.due("addHouse(0, 0, 1)", x.addHouse(0, 0, 1), 0);
        Check.due("addHouse(9, 9, 9)", x.addHouse(9, 9, 9), 1);
        Check.due("addHouse(3, 5, 7)", x.addHouse(3, 5, 7), 2);
        int[] facts = {3, 5, 10, 0, 0, 0, 0, 0, 0, 0, 0};
        for (int what = 0; what < facts.length; what++) {
            Check.due("house(2, " + what + ")", x.house(2, what), facts[what]);
        }
        int[][] bad = {{-1, 0, 1}, {10, 0, 1}, {0, -1, 1}, {0, 10, 1}, {0, 0, 0}, {0, 0, 10}, {0, 0, -1}};
        for (int[] b : bad) {
            Check.dueThrow("addHouse(" + b[0] + ", " + b[1] + ", " + b[2] + ")", x, IllegalArgumentException.class,
                    () -> x.addHouse(b[0], b[1], b[2]));
        }
        for (int w : WILD) {
            Check.dueThrow("addHouse(0, 0, " + w + ")", x, IllegalArgumentException.class, () -> x.addHouse(0, 0, w));
        }
        for (int number = 3; number < 10; number++) {
            Check.due("addHouse", x.addHouse(1, 1, 1), number);
        }
        Check.dueThrow("the eleventh addHouse", x, IllegalStateException.class, () -> x.addHouse(0, 0, 1));
        Check.dueThrow("a bad eleventh addHouse", x, IllegalArgumentException.class, () -> x.addHouse(10, 0, 1));
        Check.due("count(1)", x.count(1), 10);
    }

    private static void promise3AddPump() {
        PumpRoster x = new PumpRoster();
        int[][] bad = {{-1, 0}, {201, 0}, {0, -1}, {0, 51}, {Integer.MIN_VALUE, 0}, {0, Integer.MAX_VALUE}};
        for (int[] b : bad) {
            Check.dueThrow("addPump(" + b[0] + ", " + b[1] + ")", x, IllegalArgumentException.class,
                    () -> x.addPump(b[0], b[1]));
        }
        Check.due("addPump(0, 0)", x.addPump(0, 0), 0);
        Check.due("addPump(200, 50)", x.addPump(200, 50), 1);
        Check.due("addPump(70, 8)", x.addPump(70, 8), 2);
        int[] facts = {70, 8, 0, 0, 0, -1, 0, 0, 0, 0, 0};
        for (int what = 0; what < facts.length; what++) {
            Check.due("pump(2, " + what + ")", x.pump(2, what), facts[what]);
        }
        Check.dueThrow("the fourth addPump", x, IllegalStateException.class, () -> x.addPump(0, 0));
        Check.dueThrow("a bad fourth addPump", x, IllegalArgumentException.class, () -> x.addPump(0, 51));
        Check.due("count(2)", x.count(2), 3);
    }

    private static void promise4Lodge() {
        PumpRoster x = new PumpRoster();
        x.addHouse(4, 0, 1);
        Check.due("lodge(0, 9)", x.lodge(0, 9), 4);
        Check.due("house(0, 0)", x.house(0, 0), 9);
        Check.due("lodge(0, 0)", x.lodge(0, 0), 9);
        Check.due("count(8)", x.count(8), 2);
        x.pass(1);
        Check.due("thirst without lodgers", x.house(0, 7), 2);
        Check.dueThrow("lodge(1, 0)", x, IndexOutOfBoundsException.class, () -> x.lodge(1, 0));
        Check.dueThrow("lodge(1, 10)", x, IndexOutOfBoundsException.class, () -> x.lodge(1, 10));
        Check.dueThrow("lodge(0, 10)", x, IllegalArgumentException.class, () -> x.lodge(0, 10));
        for (int w : WILD) {
            Check.dueThrow("lodge(" + w + ", 0)", x, IndexOutOfBoundsException.class, () -> x.lodge(w, 0));
            Check.dueThrow("lodge(0, " + w + ")", x, IllegalArgumentException.class, () -> x.lodge(0, w));
        }
    }

    private static void promise5Prefer() {
        PumpRoster x = new PumpRoster();
        x.addHouse(0, 0, 9);
        Check.dueThrow("prefer(0, 0) without pumps", x, IndexOutOfBoundsException.class, () -> x.prefer(0, 0));
        for (int i = 0; i < 3; i++) {
            x.addPump(100, 0);
            x.enrol(i, 0);
        }
        Check.due("prefer(0, 2)", x.prefer(0, 2), 0);
        Check.due("house(0, 5)", x.house(0, 5), 2);
        Check.due("prefer(0, 1)", x.prefer(0, 1), 2);
        x.pass(1);
        Check.due("drawn from 0", x.pump(0, 9), 0);
        Check.due("drawn from 1", x.pump(1, 9), 2);
        Check.due("drawn from 2", x.pump(2, 9), 0);
        for (int w : new int[] {Integer.MIN_VALUE, -1, 1, Integer.MAX_VALUE}) {
            Check.dueThrow("prefer(" + w + ", 0)", x, IndexOutOfBoundsException.class, () -> x.prefer(w, 0));
        }
        for (int w : new int[] {Integer.MIN_VALUE, -1, 3, Integer.MAX_VALUE}) {
            Check.dueThrow("prefer(0, " + w + ")", x, IndexOutOfBoundsException.class, () -> x.prefer(0, w));
        }
    }

    private static void promise6Leave() {
        PumpRoster x = new PumpRoster();
        x.addHouse(1, 4, 1);
        Check.due("leave(0, 30)", x.leave(0, 30), 0);
        Check.due("count(8) when away", x.count(8), 0);
        x.pass(1);
        Check.due("eggs when away", x.house(0, 2), 10);
        Check.due("thirst when away", x.house(0, 7), 0);
        Check.due("leave(0, 2)", x.leave(0, 2), 29);
        x.pass(3);
        Check.due("house(0, 4) is back", x.house(0, 4), 0);
        Check.due("eggs of the one day there", x.house(0, 2), 14);
        Check.due("leave(0, 7)", x.leave(0, 7), 0);
        Check.due("leave(0, 0)", x.leave(0, 0), 7);
        Check.due("count(5)", x.count(5), 0);
        Check.dueThrow("leave(1, 31)", x, IndexOutOfBoundsException.class, () -> x.leave(1, 31));
        Check.dueThrow("leave(0, 31)", x, IllegalArgumentException.class, () -> x.leave(0, 31));
        for (int w : WILD) {
            Check.dueThrow("leave(" + w + ", 0)", x, IndexOutOfBoundsException.class, () -> x.leave(w, 0));
            Check.dueThrow("leave(0, " + w + ")", x, IllegalArgumentException.class, () -> x.leave(0, w));
        }
    }

    private static void promise7Fine() {
        PumpRoster x = new PumpRoster();
        x.addHouse(0, 0, 1);
        x.addHouse(0, 0, 1);
        Check.due("fine(0, 9)", x.fine(0, 9), 9);
        Check.due("fine(0, 1), all it has", x.fine(0, 1), 1);
        Check.due("no mark for what is paid in full", x.house(0, 3), 0);
        Check.due("fine(0, 1) without eggs", x.fine(0, 1), 0);
        Check.due("a mark", x.house(0, 3), 1);
        Check.due("fine(1, 50)", x.fine(1, 50), 10);
        Check.due("a mark of 1", x.house(1, 3), 1);
        for (int i = 0; i < 4; i++) {
            Check.due("fine(1, 50) without eggs", x.fine(1, 50), 0);
        }
        Check.due("3 marks at most", x.house(1, 3), 3);
        Check.due("eggs of all fines told", x.house(1, 9), 250);
        Check.due("the chest", x.count(3), 20);
        Check.dueThrow("fine(2, 0)", x, IndexOutOfBoundsException.class, () -> x.fine(2, 0));
        Check.dueThrow("fine(0, 0)", x, IllegalArgumentException.class, () -> x.fine(0, 0));
        Check.dueThrow("fine(0, 51)", x, IllegalArgumentException.class, () -> x.fine(0, 51));
        for (int w : WILD) {
            Check.dueThrow("fine(" + w + ", 1)", x, IndexOutOfBoundsException.class, () -> x.fine(w, 1));
            Check.dueThrow("fine(0, " + w + ")", x, IllegalArgumentException.class, () -> x.fine(0, w));
        }
    }

    private static PumpRoster villageOf(int houses) {
        PumpRoster x = new PumpRoster();
        x.addPump(200, 50);
        x.addPump(200, 50);
        for (int house = 0; house < houses; house++) {
            x.addHouse(0, 0, 9);
            x.enrol(0, house);
        }
        return x;
    }

    private static void mark3(PumpRoster x, int house) {
        for (int i = 0; i < 3; i++) {
            x.fine(house, 50);
        }
    }

    private static void promise7ThreeMarksLeaveAllRosters() {
        PumpRoster x = villageOf(3);
        x.enrol(1, 2);
        x.enrol(1, 1);
        x.pass(2);
        Check.due("the key of pump 1 before", x.pump(1, 5), 1);
        x.fine(1, 50);
        x.fine(1, 50);
        Check.due("2 marks leave it on the roster", x.pump(0, 6), 3);
        x.fine(1, 50);
        Check.due("houses on 0", x.pump(0, 6), 2);
        Check.due("houses on 1", x.pump(1, 6), 1);
        Check.due("the place behind comes up", x.roster(0, 1), 2);
        Check.due("the one on 1", x.roster(1, 0), 2);
        Check.due("the key is kept", x.pump(1, 5), 1);
        Check.due("keys of it", x.house(1, 10), 2);
    }

    private static void promise7TheTurnWhenAHouseLeaves() {
        // The house that leaves, the turn before, and the turn then, on a roster of four.
        int[][] rows = {{0, 0, 0}, {0, 2, 1}, {1, 2, 1}, {1, 1, 1}, {2, 1, 1}, {3, 3, 0}, {3, 2, 2}, {2, 3, 2}};
        for (int[] row : rows) {
            PumpRoster x = villageOf(4);
            if (row[1] > 0) {
                x.pass(row[1]);
            }
            Check.due("the turn before", x.pump(0, 7), row[1]);
            mark3(x, row[0]);
            Check.due("the turn " + row[1] + " when " + row[0] + " leaves", x.pump(0, 7), row[2]);
        }
        PumpRoster x = villageOf(1);
        mark3(x, 0);
        Check.due("the turn of a roster left empty", x.pump(0, 7), 0);
        Check.due("houses on it", x.pump(0, 6), 0);
    }
}
