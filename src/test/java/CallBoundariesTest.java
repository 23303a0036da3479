/** The boundary cases of the twenty promises: the ends of each argument, what is empty or full, and refused calls. */
public final class CallBoundariesTest {

    private static final Class<? extends RuntimeException> ARGUMENT = IllegalArgumentException.class;
    private static final Class<? extends RuntimeException> STATE = IllegalStateException.class;
    private static final Class<? extends RuntimeException> INDEX = IndexOutOfBoundsException.class;

    private interface CallOfOne {
        void make(int given);
    }

    public static void main(String[] args) {
        newObject();
        addHouseLodgersOrHens();
        addHouseForgets();
        addHouseIfThereAreTen();
        addPumpLevel();
        addPumpInflow();
        addPumpIfThereAreThree();
        lodgeNoSuchHouse();
        lodgeLodgers();
        preferNoSuchHouseOrPump();
        preferReturnsThePumpBefore();
        leaveNoSuchHouse();
        leaveDays();
        leaveReturnsDaysYet();
        leaveZeroIsThere();
        fineNoSuchHouse();
        fineEggs();
        fineReturnsWhatItPays();
        enrolNoSuchPumpOrHouse();
        enrolIfItIsOnIt();
        enrolWithMarks();
        enrolReturnsHowMany();
        changeNoSuchPumpOrPlace();
        changeTheTurnStays();
        changeReturnsTheHouse();
        rosterNoSuchPumpOrPlace();
        rosterAtItsEnds();
        aheadNoSuchPumpOrHouse();
        aheadOfTheNextOne();
        aheadIfNobodyIsAway();
        aheadNotOnTheRoster();
        houseNoSuchHouse();
        houseWhat();
        houseFinesPaidOrNot();
        houseKeysOfAllPumps();
        pumpNoSuchPump();
        pumpWhat();
        passDays();
        passReturnsBuckets();
        countWhat();
        countAtItsEnds();
        foreseeDays();
        foreseeWhat();
        foreseeChangesNothing();
        foreseeHowMuchMore();
        foreseeFromABrokenHandle();
        foreseeFromADayOfTheWeek();
        adviseNoSuchHouse();
        adviseDays();
        adviseWithoutPumps();
        adviseOfSeveral();
        adviseChangesNothing();
        unfairNoSuchPump();
        unfairEmptyRoster();
        unfairOfAllPumps();
        dailyOnTheDay0();
        dailyIsNotCut();
        digestOfANewObject();
        digestWrapsAround();
        digestOfNobody();
        digestInTheirOrder();
        at512Calls();
        Check.finish("CallBoundariesTest");
    }

    /** Each number of a row has to be refused with this exception; the ends of int always. */
    private static void refused(String call, PumpRoster x, Class<? extends RuntimeException> want, int tooSmall,
            int tooLarge, CallOfOne made) {
        int[] row = {tooSmall, tooLarge, tooSmall - 1, tooLarge + 1, Integer.MIN_VALUE, Integer.MAX_VALUE};
        for (int given : row) {
            Check.dueThrow(call + " with " + given, x, want, () -> made.make(given));
        }
    }

    // ---- Promise 1.

    private static void newObject() {
        Check.sentence("Creates a village without houses and pumps, on the day 0.");
        PumpRoster x = new PumpRoster();
        for (int what = 0; what <= 9; what++) {
            Check.due("count(" + what + ")", x.count(what), 0);
        }
        Check.dueThrow("house(0, 0)", x, INDEX, () -> x.house(0, 0));
        Check.dueThrow("pump(0, 0)", x, INDEX, () -> x.pump(0, 0));
        Check.due("foresee(100, 0)", x.foresee(100, 0), 0);
        Check.due("pass(100)", x.pass(100), 0);
        PumpRoster other = new PumpRoster();
        Check.due("the day of another one", other.count(0), 0);
    }

    // ---- Promise 2.

    private static void addHouseLodgersOrHens() {
        Check.sentence("Throws `IllegalArgumentException` if lodgers or hens is not 0 to 9");
        PumpRoster x = new PumpRoster();
        refused("addHouse, lodgers", x, ARGUMENT, -1, 10, given -> x.addHouse(given, 0, 1));
        refused("addHouse, hens", x, ARGUMENT, -1, 10, given -> x.addHouse(0, given, 1));
        Check.due("no house came", x.count(1), 0);
        Check.due("addHouse(0, 9, 1)", x.addHouse(0, 9, 1), 0);
        Check.due("addHouse(9, 0, 1)", x.addHouse(9, 0, 1), 1);
    }

    private static void addHouseForgets() {
        Check.sentence("or forgets is not 1 to 9");
        PumpRoster x = new PumpRoster();
        refused("addHouse, forgets", x, ARGUMENT, 0, 10, given -> x.addHouse(0, 0, given));
        Check.due("no house came", x.count(1), 0);
        Check.due("addHouse(0, 0, 1)", x.addHouse(0, 0, 1), 0);
        Check.due("addHouse(0, 0, 9)", x.addHouse(0, 0, 9), 1);
    }

    private static void addHouseIfThereAreTen() {
        Check.sentence("Throws `IllegalStateException` if there are 10");
        PumpRoster x = Villages.of(10, 0);
        for (int i = 0; i < 3; i++) {
            Check.dueThrow("addHouse(9, 9, 9)", x, STATE, () -> x.addHouse(9, 9, 9));
        }
        Villages.mark(x, 3, 3);
        Check.dueThrow("addHouse when one has 3 marks", x, STATE, () -> x.addHouse(0, 0, 1));
        Check.due("count(1)", x.count(1), 10);
    }

    // ---- Promise 3.

    private static void addPumpLevel() {
        Check.sentence("Throws `IllegalArgumentException` if level is not 0 to 200");
        PumpRoster x = new PumpRoster();
        refused("addPump, level", x, ARGUMENT, -1, 201, given -> x.addPump(given, 0));
        Check.due("no pump came", x.count(2), 0);
        Check.due("addPump(0, 0)", x.addPump(0, 0), 0);
        Check.due("addPump(200, 0)", x.addPump(200, 0), 1);
        Check.due("the least level", x.pump(0, 0), 0);
        Check.due("the greatest level", x.pump(1, 0), 200);
    }

    private static void addPumpInflow() {
        Check.sentence("or inflow is not 0 to 50");
        PumpRoster x = new PumpRoster();
        refused("addPump, inflow", x, ARGUMENT, -1, 51, given -> x.addPump(0, given));
        Check.due("no pump came", x.count(2), 0);
        Check.due("addPump(0, 0)", x.addPump(0, 0), 0);
        Check.due("addPump(0, 50)", x.addPump(0, 50), 1);
        Check.due("the least inflow", x.pump(0, 1), 0);
        Check.due("the greatest inflow", x.pump(1, 1), 50);
    }

    private static void addPumpIfThereAreThree() {
        Check.sentence("Throws `IllegalStateException` if there are 3");
        PumpRoster x = Villages.of(0, 2);
        Check.due("the third addPump", x.addPump(1, 1), 2);
        for (int i = 0; i < 3; i++) {
            Check.dueThrow("addPump(200, 50)", x, STATE, () -> x.addPump(200, 50));
        }
        Check.due("count(2)", x.count(2), 3);
    }

    // ---- Promise 4.

    private static void lodgeNoSuchHouse() {
        Check.sentence("Throws `IndexOutOfBoundsException` if there is no such house");
        PumpRoster none = Villages.of(0, 1);
        Check.dueThrow("lodge(0, 0) without houses", none, INDEX, () -> none.lodge(0, 0));
        PumpRoster x = Villages.of(3, 1);
        refused("lodge, house", x, INDEX, -1, 3, given -> x.lodge(given, 1));
        PumpRoster full = Villages.of(10, 1);
        refused("lodge of ten, house", full, INDEX, -1, 10, given -> full.lodge(given, 1));
        Check.due("lodge(2, 1)", x.lodge(2, 1), 0);
        Check.due("lodge(9, 1)", full.lodge(9, 1), 0);
    }

    private static void lodgeLodgers() {
        Check.sentence("Throws `IllegalArgumentException` if lodgers is not 0 to 9");
        PumpRoster x = Villages.of(1, 0);
        refused("lodge, lodgers", x, ARGUMENT, -1, 10, given -> x.lodge(0, given));
        Check.due("lodge(0, 9)", x.lodge(0, 9), 0);
        Check.due("lodge(0, 0), how many it had", x.lodge(0, 0), 9);
        Check.due("lodge(0, 0) again", x.lodge(0, 0), 0);
    }

    // ---- Promise 5.

    private static void preferNoSuchHouseOrPump() {
        Check.sentence("Throws `IndexOutOfBoundsException` if there is no such house or pump");
        PumpRoster none = Villages.of(1, 0);
        Check.dueThrow("prefer(0, 0) without pumps", none, INDEX, () -> none.prefer(0, 0));
        PumpRoster x = Villages.of(2, 1);
        refused("prefer, house", x, INDEX, -1, 2, given -> x.prefer(given, 0));
        refused("prefer, pump", x, INDEX, -1, 1, given -> x.prefer(0, given));
        PumpRoster full = Villages.of(10, 3);
        refused("prefer of ten, house", full, INDEX, -1, 10, given -> full.prefer(given, 0));
        refused("prefer of three, pump", full, INDEX, -1, 3, given -> full.prefer(0, given));
        Check.due("prefer(9, 2)", full.prefer(9, 2), 0);
    }

    private static void preferReturnsThePumpBefore() {
        Check.sentence("Returns the pump before (0, if it was never set).");
        PumpRoster x = Villages.of(1, 3);
        Check.due("prefer(0, 2), never set", x.prefer(0, 2), 0);
        Check.due("prefer(0, 2), the same", x.prefer(0, 2), 2);
        Check.due("prefer(0, 0)", x.prefer(0, 0), 2);
        Check.due("prefer(0, 1), set to 0", x.prefer(0, 1), 0);
    }

    // ---- Promise 6.

    private static void leaveNoSuchHouse() {
        Check.sentence("Throws `IndexOutOfBoundsException` if there is no such house");
        PumpRoster none = Villages.of(0, 1);
        Check.dueThrow("leave(0, 0) without houses", none, INDEX, () -> none.leave(0, 0));
        PumpRoster x = Villages.of(3, 1);
        refused("leave, house", x, INDEX, -1, 3, given -> x.leave(given, 1));
        Check.due("leave(2, 1)", x.leave(2, 1), 0);
    }

    private static void leaveDays() {
        Check.sentence("Throws `IllegalArgumentException` if days is not 0 to 30");
        PumpRoster x = Villages.of(1, 0);
        refused("leave, days", x, ARGUMENT, -1, 31, given -> x.leave(0, given));
        Check.due("leave(0, 30)", x.leave(0, 30), 0);
        refused("leave, days, when away", x, ARGUMENT, -1, 31, given -> x.leave(0, given));
        Check.due("leave(0, 0)", x.leave(0, 0), 30);
    }

    private static void leaveReturnsDaysYet() {
        Check.sentence("Returns for how many it would have been away yet.");
        PumpRoster x = Villages.of(1, 0);
        x.leave(0, 30);
        x.pass(10);
        Check.due("leave(0, 1)", x.leave(0, 1), 20);
        x.pass(10);
        Check.due("leave(0, 5), long back", x.leave(0, 5), 0);
        Check.due("leave(0, 6)", x.leave(0, 6), 5);
        Check.due("not added up", x.house(0, 4), 6);
    }

    private static void leaveZeroIsThere() {
        Check.sentence("0: it is there");
        PumpRoster x = new PumpRoster();
        x.addHouse(0, 4, 9);
        x.leave(0, 30);
        x.leave(0, 0);
        Check.due("count(5)", x.count(5), 0);
        x.pass(1);
        Check.due("its hens lay", x.house(0, 2), 14);
        Check.due("its days away", x.house(0, 4), 0);
    }

    // ---- Promise 7.

    private static void fineNoSuchHouse() {
        Check.sentence("Throws `IndexOutOfBoundsException` if there is no such house");
        PumpRoster none = Villages.of(0, 1);
        Check.dueThrow("fine(0, 1) without houses", none, INDEX, () -> none.fine(0, 1));
        PumpRoster x = Villages.of(3, 1);
        refused("fine, house", x, INDEX, -1, 3, given -> x.fine(given, 1));
        Check.due("fine(2, 1)", x.fine(2, 1), 1);
    }

    private static void fineEggs() {
        Check.sentence("Throws `IllegalArgumentException` if eggs is not 1 to 50");
        PumpRoster x = new PumpRoster();
        x.addHouse(0, 9, 9);
        x.pass(10);
        refused("fine, eggs", x, ARGUMENT, 0, 51, given -> x.fine(0, given));
        Check.due("fine(0, 1)", x.fine(0, 1), 1);
        Check.due("fine(0, 50)", x.fine(0, 50), 50);
        Check.due("the fines that it was told", x.house(0, 9), 51);
    }

    private static void fineReturnsWhatItPays() {
        Check.sentence("Returns the eggs that it pays.");
        PumpRoster x = Villages.of(1, 0);
        Check.due("fine(0, 4) of 10", x.fine(0, 4), 4);
        Check.due("fine(0, 6) of 6", x.fine(0, 6), 6);
        Check.due("fine(0, 6) of none", x.fine(0, 6), 0);
        Check.due("eggs", x.house(0, 2), 0);
    }

    // ---- Promise 8.

    private static void enrolNoSuchPumpOrHouse() {
        Check.sentence("Throws `IndexOutOfBoundsException` if there is no such pump or house");
        PumpRoster none = Villages.of(1, 0);
        Check.dueThrow("enrol(0, 0) without pumps", none, INDEX, () -> none.enrol(0, 0));
        PumpRoster x = Villages.of(2, 1);
        refused("enrol, pump", x, INDEX, -1, 1, given -> x.enrol(given, 0));
        refused("enrol, house", x, INDEX, -1, 2, given -> x.enrol(0, given));
        PumpRoster full = Villages.of(10, 3);
        refused("enrol of three, pump", full, INDEX, -1, 3, given -> full.enrol(given, 0));
        refused("enrol of ten, house", full, INDEX, -1, 10, given -> full.enrol(0, given));
        Check.due("enrol(2, 9)", full.enrol(2, 9), 1);
    }

    private static void enrolIfItIsOnIt() {
        Check.sentence("Throws `IllegalStateException` if it is on it");
        PumpRoster x = Villages.of(3, 2);
        for (int house = 0; house < 3; house++) {
            x.enrol(0, house);
        }
        for (int i = 0; i < 3; i++) {
            int house = i;
            Check.dueThrow("enrol(0, " + i + ") again", x, STATE, () -> x.enrol(0, house));
        }
        Check.due("enrol(1, 1), not on that one", x.enrol(1, 1), 1);
    }

    private static void enrolWithMarks() {
        Check.sentence("or has 3 marks");
        for (int marks = 0; marks <= 4; marks++) {
            PumpRoster x = Villages.of(2, 1);
            Villages.mark(x, 1, marks);
            if (marks < 3) {
                Check.due("enrol(0, 1) with " + marks, x.enrol(0, 1), 1);
            } else {
                Check.dueThrow("enrol(0, 1) after " + marks + " fines", x, STATE, () -> x.enrol(0, 1));
            }
            Check.due("enrol of the other", x.enrol(0, 0), marks < 3 ? 2 : 1);
        }
    }

    private static void enrolReturnsHowMany() {
        Check.sentence("Adds a house at the end of a roster.");
        PumpRoster x = Villages.of(10, 1);
        for (int house = 0; house < 10; house++) {
            Check.due("enrol(0, " + house + ")", x.enrol(0, house), house + 1);
            Check.due("the last place", x.roster(0, house), house);
        }
        Villages.mark(x, 0, 3);
        x.addPump(0, 0);
        Check.due("enrol on another, empty one", x.enrol(1, 5), 1);
        Check.due("nine are left", x.pump(0, 6), 9);
    }

    // ---- Promise 9.

    private static void changeNoSuchPumpOrPlace() {
        Check.sentence("Throws `IndexOutOfBoundsException` if there is no such pump, or no such place on its roster");
        PumpRoster x = Villages.of(4, 2);
        for (int house = 0; house < 3; house++) {
            x.enrol(0, house);
        }
        refused("change, pump", x, INDEX, -1, 2, given -> x.change(given, 0, 1));
        refused("change, a", x, INDEX, -1, 3, given -> x.change(0, given, 1));
        refused("change, b", x, INDEX, -1, 3, given -> x.change(0, 1, given));
        Check.dueThrow("change(1, 0, 0) of an empty roster", x, INDEX, () -> x.change(1, 0, 0));
        Villages.mark(x, 1, 3);
        Check.dueThrow("change(0, 0, 2) when one has left", x, INDEX, () -> x.change(0, 0, 2));
        PumpRoster none = Villages.of(1, 0);
        Check.dueThrow("change(0, 0, 0) without pumps", none, INDEX, () -> none.change(0, 0, 0));
        PumpRoster full = Villages.withTurn(10, 0);
        refused("change of ten, a", full, INDEX, -1, 10, given -> full.change(0, given, 1));
        refused("change of ten, b", full, INDEX, -1, 10, given -> full.change(0, 1, given));
        full.change(0, 0, 9);
        Check.dueText("the first and the last of ten", Villages.roster(full, 0), "9 1 2 3 4 5 6 7 8 0");
    }

    private static void changeTheTurnStays() {
        Check.sentence("Has two houses of a roster change places (the turn stays at its place).");
        for (int a = 0; a < 3; a++) {
            for (int b = 0; b < 3; b++) {
                PumpRoster x = Villages.withTurn(3, 1);
                x.change(0, a, b);
                Check.due("the turn after change(0, " + a + ", " + b + ")", x.pump(0, 7), 1);
                Check.due("at " + a, x.roster(0, a), b);
                Check.due("at " + b, x.roster(0, b), a);
                Check.due("at the third place", x.roster(0, 0) + x.roster(0, 1) + x.roster(0, 2), 3);
            }
        }
    }

    private static void changeReturnsTheHouse() {
        Check.sentence("Returns the house at the place of the turn then.");
        PumpRoster x = Villages.withTurn(3, 1);
        Check.due("change(0, 0, 2), not at the turn", x.change(0, 0, 2), 1);
        Check.due("change(0, 1, 2), at the turn", x.change(0, 1, 2), 0);
        Check.due("change(0, 1, 1), with itself", x.change(0, 1, 1), 0);
        PumpRoster one = Villages.withTurn(1, 0);
        Check.due("change(0, 0, 0) on a roster of one", one.change(0, 0, 0), 0);
    }

    // ---- Promise 10.

    private static void rosterNoSuchPumpOrPlace() {
        Check.sentence("Throws `IndexOutOfBoundsException` if there is no such pump, or no such place on its roster");
        PumpRoster x = Villages.of(4, 2);
        for (int house = 0; house < 3; house++) {
            x.enrol(0, house);
        }
        refused("roster, pump", x, INDEX, -1, 2, given -> x.roster(given, 0));
        refused("roster, index", x, INDEX, -1, 3, given -> x.roster(0, given));
        refused("roster, index, of an empty one", x, INDEX, -1, 0, given -> x.roster(1, given));
        PumpRoster none = Villages.of(1, 0);
        Check.dueThrow("roster(0, 0) without pumps", none, INDEX, () -> none.roster(0, 0));
    }

    private static void rosterAtItsEnds() {
        Check.sentence("Returns the house there.");
        PumpRoster x = Villages.withTurn(10, 0);
        refused("roster, index, of a full one", x, INDEX, -1, 10, given -> x.roster(0, given));
        Check.due("the first place", x.roster(0, 0), 0);
        Check.due("the last place", x.roster(0, 9), 9);
        Villages.mark(x, 9, 3);
        Check.due("the last place of nine", x.roster(0, 8), 8);
        Check.dueThrow("roster(0, 9) of nine", x, INDEX, () -> x.roster(0, 9));
    }

    // ---- Promise 11.

    private static void aheadNoSuchPumpOrHouse() {
        Check.sentence("Throws `IndexOutOfBoundsException` if there is no such pump or house");
        PumpRoster none = Villages.of(1, 0);
        Check.dueThrow("ahead(0, 0) without pumps", none, INDEX, () -> none.ahead(0, 0));
        PumpRoster x = Villages.withTurn(3, 0);
        refused("ahead, pump", x, INDEX, -1, 1, given -> x.ahead(given, 0));
        refused("ahead, house", x, INDEX, -1, 3, given -> x.ahead(0, given));
    }

    private static void aheadOfTheNextOne() {
        Check.sentence("how many duties will be of other houses ahead of the next one of this house");
        for (int houses = 1; houses <= 10; houses++) {
            for (int turn = 0; turn < houses; turn++) {
                PumpRoster x = Villages.withTurn(houses, turn);
                Check.due("ahead of the one at the turn " + turn + " of " + houses, x.ahead(0, turn), 0);
                int last = (turn + houses - 1) % houses;
                Check.due("ahead of the one that had the last duty, " + last, x.ahead(0, last), houses - 1);
                int next = (turn + 1) % houses;
                Check.due("ahead of the one behind the turn, " + next, x.ahead(0, next), houses == 1 ? 0 : 1);
            }
        }
    }

    private static void aheadIfNobodyIsAway() {
        Check.sentence("if nobody is away (0 if it is the next one)");
        PumpRoster x = Villages.withTurn(4, 1);
        for (int house = 0; house < 4; house++) {
            x.leave(house, 30);
        }
        int[] ahead = {3, 0, 1, 2};
        for (int house = 0; house < 4; house++) {
            Check.due("ahead(0, " + house + ") though all are away", x.ahead(0, house), ahead[house]);
        }
    }

    private static void aheadNotOnTheRoster() {
        Check.sentence("-1 if it is not on the roster");
        PumpRoster x = Villages.of(3, 2);
        x.enrol(0, 1);
        Check.due("ahead(0, 0)", x.ahead(0, 0), -1);
        Check.due("ahead(0, 2)", x.ahead(0, 2), -1);
        Check.due("ahead(1, 1), on an empty roster", x.ahead(1, 1), -1);
        Villages.mark(x, 1, 3);
        Check.due("ahead(0, 1) when it has left", x.ahead(0, 1), -1);
    }

    // ---- Promises 12 and 13.

    private static void houseNoSuchHouse() {
        Check.sentence("Throws `IndexOutOfBoundsException` if there is no such house, or what is not 0 to 10");
        PumpRoster none = Villages.of(0, 1);
        Check.dueThrow("house(0, 0) without houses", none, INDEX, () -> none.house(0, 0));
        PumpRoster x = Villages.of(3, 0);
        refused("house, house", x, INDEX, -1, 3, given -> x.house(given, 0));
        PumpRoster full = Villages.of(10, 0);
        refused("house of ten, house", full, INDEX, -1, 10, given -> full.house(given, 0));
        Check.due("house(9, 2)", full.house(9, 2), 10);
    }

    private static void houseWhat() {
        Check.sentence("or what is not 0 to 10");
        PumpRoster x = Villages.withTurn(1, 1);
        refused("house, what", x, INDEX, -1, 11, given -> x.house(0, given));
        x.lodge(0, 8);
        Check.due("house(0, 0)", x.house(0, 0), 8);
        Check.due("house(0, 10)", x.house(0, 10), 1);
    }

    private static void houseFinesPaidOrNot() {
        Check.sentence("9 the eggs of all fines that it was told, paid or not");
        PumpRoster x = Villages.of(2, 0);
        int told = 0;
        for (int eggs = 1; eggs <= 50; eggs++) {
            x.fine(0, eggs);
            told += eggs;
            Check.due("house(0, 9) after the fine " + eggs, x.house(0, 9), told);
        }
        Check.due("house(1, 9), never fined", x.house(1, 9), 0);
    }

    private static void houseKeysOfAllPumps() {
        Check.sentence("10 keys that it has");
        PumpRoster x = Villages.of(2, 3);
        Check.due("house(0, 10) at first", x.house(0, 10), 0);
        for (int pump = 0; pump < 3; pump++) {
            x.enrol(pump, 0);
            x.enrol(pump, 1);
        }
        x.pass(1);
        Check.due("house(0, 6) of all three", x.house(0, 6), 3);
        Check.due("house(0, 10) of all three", x.house(0, 10), 3);
        Check.due("house(1, 10) of none", x.house(1, 10), 0);
        x.pass(1);
        Check.due("house(0, 8) of all three", x.house(0, 8), 3);
        Check.due("house(0, 10) then", x.house(0, 10), 0);
        Check.due("house(1, 10) then", x.house(1, 10), 3);
        Check.due("house(1, 6) then", x.house(1, 6), 3);
    }

    private static void pumpNoSuchPump() {
        Check.sentence("Throws `IndexOutOfBoundsException` if there is no such pump, or what is not 0 to 10");
        PumpRoster none = Villages.of(1, 0);
        Check.dueThrow("pump(0, 0) without pumps", none, INDEX, () -> none.pump(0, 0));
        PumpRoster x = Villages.of(0, 2);
        refused("pump, pump", x, INDEX, -1, 2, given -> x.pump(given, 0));
        PumpRoster full = Villages.of(0, 3);
        refused("pump of three, pump", full, INDEX, -1, 3, given -> full.pump(given, 0));
        Check.due("pump(2, 0)", full.pump(2, 0), 200);
    }

    private static void pumpWhat() {
        Check.sentence("5 the house that has the key, -1 for nobody");
        PumpRoster x = Villages.withTurn(1, 0);
        refused("pump, what", x, INDEX, -1, 11, given -> x.pump(0, given));
        Check.due("pump(0, 5) at first", x.pump(0, 5), -1);
        Check.due("pump(0, 0)", x.pump(0, 0), 200);
        Check.due("pump(0, 10)", x.pump(0, 10), 0);
        x.pass(1);
        Check.due("pump(0, 5) then", x.pump(0, 5), 0);
    }

    // ---- Promise 14.

    private static void passDays() {
        Check.sentence("Throws `IllegalArgumentException` if days is not 1 to 100");
        PumpRoster x = Villages.withTurn(2, 0);
        refused("pass", x, ARGUMENT, 0, 101, given -> x.pass(given));
        Check.due("the day", x.count(0), 0);
        x.pass(1);
        Check.due("the day after pass(1)", x.count(0), 1);
        x.pass(100);
        Check.due("the day after pass(100)", x.count(0), 101);
    }

    private static void passReturnsBuckets() {
        Check.sentence("Returns how many buckets were drawn in them.");
        PumpRoster x = Villages.withTurn(1, 0);
        Check.due("pass(1)", x.pass(1), 2);
        Check.due("pass(3), not those before", x.pass(3), 6);
        x.leave(0, 1);
        Check.due("pass(1) when it is away", x.pass(1), 0);
        PumpRoster allAtOnce = Villages.busy();
        PumpRoster dayByDay = Villages.busy();
        int buckets = 0;
        for (int day = 0; day < 100; day++) {
            buckets += dayByDay.pass(1);
        }
        Check.due("pass(100) as 100 days", allAtOnce.pass(100), buckets);
        Check.due("digest()", allAtOnce.digest(), dayByDay.digest());
    }

    // ---- Promise 15.

    private static void countWhat() {
        Check.sentence("Throws `IndexOutOfBoundsException` if what is not 0 to 9");
        PumpRoster x = Villages.busy();
        refused("count", x, INDEX, -1, 10, given -> x.count(given));
        Check.due("count(0)", x.count(0), 3);
        Check.due("count(9)", x.count(9), 0);
    }

    private static void countAtItsEnds() {
        Check.sentence("8 buckets that are needed in a day by all who are there");
        PumpRoster x = new PumpRoster();
        for (int house = 0; house < 10; house++) {
            x.addHouse(9, 0, 9);
        }
        Check.due("count(8) of ten full houses", x.count(8), 110);
        Check.due("count(5)", x.count(5), 0);
        for (int house = 0; house < 10; house++) {
            x.leave(house, 1);
        }
        Check.due("count(8) when all are away", x.count(8), 0);
        Check.due("count(5) when all are away", x.count(5), 10);
        x.pass(1);
        Check.due("count(7), no thirst of those who are away", x.count(7), 0);
        Check.due("count(8) when all are back", x.count(8), 110);
        for (int house = 0; house < 10; house++) {
            Villages.mark(x, house, 4);
        }
        Check.due("count(6), all marks", x.count(6), 30);
        Check.due("count(4), no eggs", x.count(4), 0);
        Check.due("count(3), all eggs", x.count(3), 100);
    }

    // ---- Promise 16.

    private static void foreseeDays() {
        Check.sentence("Throws `IllegalArgumentException` if days is not 1 to 100");
        PumpRoster x = Villages.of(1, 0);
        refused("foresee, days", x, ARGUMENT, 0, 101, given -> x.foresee(given, 0));
        Check.due("foresee(1, 0)", x.foresee(1, 0), 2);
        Check.due("foresee(100, 0)", x.foresee(100, 0), 200);
    }

    private static void foreseeWhat() {
        Check.sentence("Throws `IndexOutOfBoundsException` if what is not 0 to 3");
        PumpRoster x = Villages.busy();
        refused("foresee, what", x, INDEX, -1, 4, given -> x.foresee(1, given));
        PumpRoster then = Villages.busy();
        int thirst = then.count(7);
        then.pass(40);
        int[] due = {then.count(7) - thirst, then.count(3), then.count(6), then.count(9)};
        for (int what = 0; what <= 3; what++) {
            Check.due("foresee(40, " + what + ")", x.foresee(40, what), due[what]);
        }
        for (int what = 0; what <= 3; what++) {
            Check.due("there is something to tell by " + what, due[what] > 0 ? 1 : 0, 1);
        }
    }

    private static void foreseeChangesNothing() {
        Check.sentence("Returns this, if so many days went by (nothing is changed).");
        PumpRoster x = Villages.busy();
        PumpRoster twin = Villages.busy();
        for (int i = 0; i < 30; i++) {
            x.foresee(1 + 3 * i, i % 4);
            Check.due("digest() as if nothing had been foreseen", x.digest(), twin.digest());
            Check.due("pass(1) as if nothing had been foreseen", x.pass(1), twin.pass(1));
        }
    }

    private static void foreseeHowMuchMore() {
        Check.sentence("0 how much more thirst all have then, 1 eggs in the chest then");
        PumpRoster x = Villages.of(2, 0);
        x.pass(10);
        x.fine(0, 4);
        Check.due("foresee(1, 0), not what was before", x.foresee(1, 0), 4);
        Check.due("foresee(1, 1), all that there is", x.foresee(1, 1), 4);
        Villages.mark(x, 1, 2);
        Check.due("foresee(1, 2), all that there are", x.foresee(1, 2), 2);
        x.leave(0, 30);
        x.leave(1, 30);
        Check.due("foresee(30, 0) when all are away", x.foresee(30, 0), 0);
        Check.due("foresee(31, 0)", x.foresee(31, 0), 4);
    }

    private static void foreseeFromABrokenHandle() {
        Check.sentence("3 broken handles then");
        PumpRoster x = new PumpRoster();
        x.addHouse(8, 9, 9);
        x.addPump(200, 50);
        x.enrol(0, 0);
        x.pass(9);
        Check.due("foresee(1, 3) of the day of the break", x.foresee(1, 3), 1);
        x.pass(1);
        x.fine(0, 10);
        for (int waits = 3; waits >= 1; waits--) {
            Check.due("the days to wait", x.pump(0, 4), waits);
            // Far ahead once, so that nothing of it may be left in what is foreseen then.
            x.foresee(100, 3);
            Check.due("foresee a day too early", waits == 1 ? 1 : x.foresee(waits - 1, 3), 1);
            Check.due("foresee the day of the mending", x.foresee(waits, 3), 0);
            Check.due("foresee the next break", x.foresee(waits + 10, 3), 1);
            x.pass(1);
        }
        Check.due("mended", x.pump(0, 10), 1);
    }

    private static void foreseeFromADayOfTheWeek() {
        Check.sentence("Returns this, if so many days went by");
        PumpRoster x = Villages.of(3, 0);
        Villages.mark(x, 0, 1);
        Villages.mark(x, 1, 1);
        x.fine(2, 4);
        for (int day = 0; day < 14; day++) {
            int toShare = 6 - day % 7;
            if (x.count(3) <= 20) {
                x.fine(2, x.house(2, 2) - 6);
            }
            if (toShare > 0) {
                Check.due("day " + day + ": foresee the chest ahead of it", x.foresee(toShare, 1), 24);
            }
            Check.due("day " + day + ": foresee the chest, shared", x.foresee(toShare + 1, 1), 20);
            x.pass(1);
        }
    }

    // ---- Promise 17.

    private static void adviseNoSuchHouse() {
        Check.sentence("Throws `IndexOutOfBoundsException` if there is no such house");
        PumpRoster none = Villages.of(0, 1);
        Check.dueThrow("advise(0, 1) without houses", none, INDEX, () -> none.advise(0, 1));
        PumpRoster x = Villages.of(3, 0);
        refused("advise, house, without pumps", x, INDEX, -1, 3, given -> x.advise(given, 1));
        PumpRoster full = Villages.of(10, 3);
        refused("advise of ten, house", full, INDEX, -1, 10, given -> full.advise(given, 1));
        Check.due("advise(9, 1)", full.advise(9, 1), 0);
    }

    private static void adviseDays() {
        Check.sentence("Throws `IllegalArgumentException` if days is not 1 to 50");
        PumpRoster x = Villages.of(1, 1);
        refused("advise, days", x, ARGUMENT, 0, 51, given -> x.advise(0, given));
        Check.due("advise(0, 1)", x.advise(0, 1), 0);
        Check.due("advise(0, 50)", x.advise(0, 50), 0);
        PumpRoster none = Villages.of(1, 0);
        refused("advise, days, without pumps", none, ARGUMENT, 0, 51, given -> none.advise(0, given));
    }

    private static void adviseWithoutPumps() {
        Check.sentence("-1 if there are no pumps");
        PumpRoster x = Villages.of(2, 0);
        Check.due("advise(0, 1)", x.advise(0, 1), -1);
        Check.due("advise(1, 50)", x.advise(1, 50), -1);
        x.addPump(0, 0);
        Check.due("advise(0, 1) with a dry pump", x.advise(0, 1), 0);
    }

    private static void adviseOfSeveral() {
        Check.sentence("of several the one with the smallest number");
        PumpRoster x = Villages.of(2, 3);
        x.prefer(0, 2);
        Check.due("all are as good", x.advise(0, 10), 0);
        // House 1 can get its water from pump 0 alone, whose handle breaks at the next bucket: 1 and 2 are as good.
        PumpRoster y = new PumpRoster();
        y.addHouse(0, 0, 9);
        y.addHouse(9, 0, 9);
        y.addPump(200, 50);
        y.addPump(2, 0);
        y.addPump(2, 0);
        for (int pump = 0; pump < 3; pump++) {
            y.enrol(pump, 1);
        }
        y.leave(0, 9);
        y.pass(9);
        for (int first = 0; first < 3; first++) {
            y.prefer(0, first);
            Check.due("1 and 2 are as good, when it goes to " + first, y.advise(0, 1), 1);
        }
    }

    private static void adviseChangesNothing() {
        Check.sentence("Returns this pump (nothing is changed)");
        PumpRoster x = Villages.busy();
        PumpRoster twin = Villages.busy();
        for (int i = 0; i < 30; i++) {
            x.advise(i % 3, 1 + i);
            Check.due("digest() as if nothing had been advised", x.digest(), twin.digest());
            Check.due("pass(1) as if nothing had been advised", x.pass(1), twin.pass(1));
        }
    }

    // ---- Promise 18.

    private static void unfairNoSuchPump() {
        Check.sentence("Throws `IndexOutOfBoundsException` if there is no such pump");
        PumpRoster none = Villages.of(1, 0);
        Check.dueThrow("unfair(0) without pumps", none, INDEX, () -> none.unfair(0));
        PumpRoster x = Villages.of(1, 2);
        refused("unfair", x, INDEX, -1, 2, given -> x.unfair(given));
        PumpRoster full = Villages.of(1, 3);
        refused("unfair of three", full, INDEX, -1, 3, given -> full.unfair(given));
        Check.due("unfair(2)", full.unfair(2), 0);
    }

    private static void unfairEmptyRoster() {
        Check.sentence("0 if the roster is empty");
        PumpRoster x = Villages.of(2, 2);
        x.enrol(1, 0);
        x.pass(5);
        Check.due("unfair(0), never with houses", x.unfair(0), 0);
        Check.due("unfair(1) of one house with 5 duties", x.unfair(1), 0);
        Villages.mark(x, 0, 3);
        Check.due("unfair(1), left empty", x.unfair(1), 0);
    }

    private static void unfairOfAllPumps() {
        Check.sentence("Returns of the houses on its roster, the most duties that one had, less the fewest "
                + "(of all pumps, in all)");
        PumpRoster x = Villages.of(4, 2);
        x.enrol(0, 0);
        x.enrol(0, 1);
        x.enrol(1, 0);
        x.enrol(1, 2);
        Check.due("unfair(0) without duties", x.unfair(0), 0);
        x.pass(4);
        Check.due("unfair(0): 4 and 2", x.unfair(0), 2);
        Check.due("unfair(1): 4 and 2", x.unfair(1), 2);
        x.enrol(1, 3);
        Check.due("unfair(1): 4, 2 and 0", x.unfair(1), 4);
        Villages.mark(x, 0, 3);
        Check.due("unfair(0) without house 0", x.unfair(0), 0);
        Check.due("unfair(1) without house 0", x.unfair(1), 2);
    }

    // ---- Promise 19.

    private static void dailyOnTheDay0() {
        Check.sentence("0 on the day 0");
        Check.dueDouble("daily() of a new object", new PumpRoster().daily(), 0);
        PumpRoster x = Villages.withTurn(1, 0);
        Check.dueDouble("daily() with a pump", x.daily(), 0);
        x.pass(1);
        Check.dueDouble("daily() on the day 1", x.daily(), 2);
        PumpRoster dry = new PumpRoster();
        dry.pass(3);
        Check.dueDouble("daily() without pumps", dry.daily(), 0);
    }

    private static void dailyIsNotCut() {
        Check.sentence("Returns all buckets that were drawn, divided by the days that went by");
        PumpRoster x = new PumpRoster();
        x.addHouse(0, 0, 9);
        x.addPump(2, 0);
        x.addPump(3, 0);
        x.enrol(0, 0);
        x.enrol(1, 0);
        x.pass(3);
        Check.dueDouble("5 in 3 days", x.daily(), 5.0 / 3.0);
        x.pass(1);
        Check.dueDouble("5 in 4 days", x.daily(), 1.25);
    }

    // ---- Promise 20. These sums were made elsewhere, with whole numbers of any length, and cut to 64 bits at the end.

    private static void digestOfANewObject() {
        Check.sentence("A number d starts with 577");
        Check.due("digest()", new PumpRoster().digest(), 472925521587922177L);
    }

    private static void digestWrapsAround() {
        Check.sentence("d becomes d * 31 + x, which wraps around as a 64-bit integer");
        PumpRoster x = new PumpRoster();
        x.addHouse(9, 8, 7);
        Check.due("digest() of a house", x.digest(), -1491309130901515746L);
        x.addPump(6, 5);
        Check.due("digest() of a house and a pump", x.digest(), 1291030466030454851L);
    }

    private static void digestOfNobody() {
        Check.sentence("for each pump what pump() tells");
        PumpRoster x = Villages.of(0, 1);
        Check.due("digest() with a key that nobody has", x.digest(), 6702098995837331543L);
    }

    private static void digestInTheirOrder() {
        Check.sentence("and the houses of its roster (all in their order)");
        PumpRoster x = Villages.of(3, 2);
        x.enrol(0, 2);
        x.enrol(0, 1);
        x.enrol(1, 0);
        Check.due("digest()", x.digest(), -2009391268843487980L);
        x.change(0, 0, 1);
        Check.due("digest() when two have changed places", x.digest(), -7192530708790429194L);
    }

    // ---- The last call of an object.

    private static void at512Calls() {
        Check.sentence("An object is used for at most 512 calls after it has been made");
        PumpRoster x = new PumpRoster();
        for (int house = 0; house < 10; house++) {
            x.addHouse(9, 9, 9);
        }
        int days = 0;
        for (int call = 10; call < 508; call++) {
            x.pass(100);
            days += 100;
        }
        Check.due("the 509th call, count(0)", x.count(0), days);
        Check.due("the 510th call, count(4)", x.count(4), 10 * (10 + 9 * days));
        Check.due("the 511th call, count(7)", x.count(7), 110 * days);
        Check.due("the 512th call, foresee(100, 0)", x.foresee(100, 0), 110 * 100);
    }
}
