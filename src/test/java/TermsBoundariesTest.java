/** The boundary cases of the document's terms: houses, pumps, the chest and fines, and calls that are refused. */
public final class TermsBoundariesTest {

    private static final Class<? extends RuntimeException> ARGUMENT = IllegalArgumentException.class;
    private static final Class<? extends RuntimeException> STATE = IllegalStateException.class;
    private static final Class<? extends RuntimeException> INDEX = IndexOutOfBoundsException.class;

    public static void main(String[] args) {
        divisionIsCut();
        daysFrom0();
        atMostTenHouses();
        housesAreNumbered();
        lodgersAtTheirEnds();
        hensAtTheirEnds();
        forgetsAtItsEnds();
        eggsAtFirst();
        marksEnd();
        firstPumpAtFirst();
        awayAtFirst();
        needOfAHouse();
        atMostThreePumps();
        levelAtItsEnds();
        inflowAtItsEnds();
        wearAtFirst();
        keyAtFirst();
        rosterFullAndEmpty();
        turnIsAPlace();
        chestAtFirst();
        finePaidInFull();
        finePaidInPart();
        noFourthMark();
        thirdMarkLeavesAllRosters();
        thirdMarkByAnyFine();
        placesComeUp();
        turnBehindTheHouse();
        turnAtTheHouse();
        turnBeyondTheLastPlace();
        turnAheadOfTheHouse();
        keyIsKept();
        refusedCallsChangeNothing();
        theFirstExceptionIsThrown();
        Check.finish("TermsBoundariesTest");
    }

    private static void divisionIsCut() {
        Check.sentence("/ is cut towards 0");
        PumpRoster x = new PumpRoster();
        for (int house = 0; house < 3; house++) {
            x.addHouse(0, 1, 9);
        }
        x.pass(6);
        x.fine(0, 9);
        x.fine(1, 8);
        x.fine(2, 8);
        x.pass(1);
        Check.due("the chest when each of three gets 5 / 3", x.count(3), 22);
        Check.due("the eggs of house 0", x.house(0, 2), 16 - 9 + 1 + 1);
        Check.due("the eggs of house 2", x.house(2, 2), 16 - 8 + 1 + 1);
    }

    private static void daysFrom0() {
        Check.sentence("Days are told from 0.");
        PumpRoster x = new PumpRoster();
        Check.due("count(0) at first", x.count(0), 0);
        x.pass(1);
        Check.due("count(0) then", x.count(0), 1);
    }

    private static void atMostTenHouses() {
        Check.sentence("There are at most 10");
        PumpRoster x = Villages.of(9, 0);
        Check.due("the tenth addHouse", x.addHouse(0, 0, 1), 9);
        Check.dueThrow("the eleventh addHouse", x, STATE, () -> x.addHouse(0, 0, 1));
        Check.due("count(1)", x.count(1), 10);
        Check.due("the last house is there", x.house(9, 2), 10);
        Check.dueThrow("house(10, 2)", x, INDEX, () -> x.house(10, 2));
    }

    private static void housesAreNumbered() {
        Check.sentence("numbered from 0 in the order of their coming");
        PumpRoster x = new PumpRoster();
        for (int house = 0; house < 10; house++) {
            Check.due("addHouse", x.addHouse(house, 9 - house, 1), house);
        }
        for (int house = 0; house < 10; house++) {
            Check.due("lodgers of " + house, x.house(house, 0), house);
            Check.due("hens of " + house, x.house(house, 1), 9 - house);
        }
    }

    private static void lodgersAtTheirEnds() {
        Check.sentence("each has lodgers, 0 to 9");
        PumpRoster x = new PumpRoster();
        x.addHouse(0, 0, 1);
        x.addHouse(9, 0, 1);
        Check.due("no lodgers", x.house(0, 0), 0);
        Check.due("nine lodgers", x.house(1, 0), 9);
        x.lodge(0, 9);
        x.lodge(1, 0);
        Check.due("nine lodgers by lodge", x.house(0, 0), 9);
        Check.due("no lodgers by lodge", x.house(1, 0), 0);
    }

    private static void hensAtTheirEnds() {
        Check.sentence("hens, 0 to 9");
        PumpRoster x = new PumpRoster();
        x.addHouse(0, 0, 1);
        x.addHouse(0, 9, 1);
        x.pass(1);
        Check.due("no hens", x.house(0, 1), 0);
        Check.due("eggs by no hens", x.house(0, 2), 10);
        Check.due("nine hens", x.house(1, 1), 9);
        Check.due("eggs by nine hens", x.house(1, 2), 19);
    }

    private static void forgetsAtItsEnds() {
        Check.sentence("forgets each so manieth key that it is to hand on, 1 to 9");
        for (int forgets = 1; forgets <= 9; forgets++) {
            // House 1 forgets none of its keys here: it has fewer than nine.
            PumpRoster x = new PumpRoster();
            x.addHouse(0, 9, forgets);
            x.addHouse(0, 9, 9);
            x.addPump(200, 50);
            x.enrol(0, 0);
            x.enrol(0, 1);
            int keys = 0;
            for (int day = 0; day < 40 && x.house(0, 9) == 0; day++) {
                x.pass(1);
                keys = x.house(0, 8);
            }
            Check.due("the first key that it forgets, by " + forgets, keys, forgets);
        }
    }

    private static void eggsAtFirst() {
        Check.sentence("has eggs (10, at first)");
        PumpRoster x = Villages.of(1, 0);
        Check.due("house(0, 2)", x.house(0, 2), 10);
        x.pass(8);
        x.addHouse(0, 9, 1);
        Check.due("house(1, 2) of a late house", x.house(1, 2), 10);
        Check.due("fine(1, 10)", x.fine(1, 10), 10);
        Check.due("marks", x.house(1, 3), 0);
    }

    private static void marksEnd() {
        Check.sentence("marks, 0 to 3 (0, at first)");
        PumpRoster x = Villages.of(1, 0);
        for (int marks = 0; marks <= 5; marks++) {
            Check.due("house(0, 3) after " + marks + " fines", x.house(0, 3), Math.min(marks, 3));
            x.fine(0, 50);
        }
    }

    private static void firstPumpAtFirst() {
        Check.sentence("a pump to which it goes first (0, at first)");
        PumpRoster x = Villages.of(1, 0);
        Check.due("house(0, 5) without pumps", x.house(0, 5), 0);
        PumpRoster y = Villages.of(1, 3);
        for (int pump = 0; pump < 3; pump++) {
            y.enrol(pump, 0);
        }
        y.pass(1);
        Check.due("house(0, 5)", y.house(0, 5), 0);
        Check.due("drawn from the pump 0", y.pump(0, 9), 2);
    }

    private static void awayAtFirst() {
        Check.sentence("is away for so many days yet (0, at first: it is there)");
        PumpRoster x = new PumpRoster();
        x.addHouse(3, 4, 9);
        Check.due("house(0, 4)", x.house(0, 4), 0);
        Check.due("count(5)", x.count(5), 0);
        x.pass(1);
        Check.due("its hens lay", x.house(0, 2), 14);
        Check.due("it is thirsty", x.house(0, 7), 5);
    }

    private static void needOfAHouse() {
        Check.sentence("A house that is there needs 2 buckets a day, and 1 for each lodger.");
        PumpRoster x = Villages.withTurn(1, 0);
        for (int lodgers = 0; lodgers <= 9; lodgers++) {
            x.lodge(0, lodgers);
            Check.due("count(8) with " + lodgers, x.count(8), 2 + lodgers);
            Check.due("pass(1) with " + lodgers, x.pass(1), 2 + lodgers);
        }
        x.leave(0, 1);
        Check.due("count(8) when it is away", x.count(8), 0);
        Check.due("pass(1) when it is away", x.pass(1), 0);
        Check.due("count(8) when it is back", x.count(8), 11);
    }

    private static void atMostThreePumps() {
        Check.sentence("There are at most 3, numbered likewise");
        PumpRoster x = new PumpRoster();
        for (int pump = 0; pump < 3; pump++) {
            Check.due("addPump", x.addPump(10 * pump, 3 - pump), pump);
        }
        Check.dueThrow("the fourth addPump", x, STATE, () -> x.addPump(0, 0));
        Check.due("count(2)", x.count(2), 3);
        for (int pump = 0; pump < 3; pump++) {
            Check.due("the level of " + pump, x.pump(pump, 0), 10 * pump);
            Check.due("the inflow of " + pump, x.pump(pump, 1), 3 - pump);
        }
        Check.dueThrow("pump(3, 0)", x, INDEX, () -> x.pump(3, 0));
    }

    private static void levelAtItsEnds() {
        Check.sentence("a well with a level, 0 to 200 buckets");
        PumpRoster x = new PumpRoster();
        x.addHouse(9, 0, 9);
        x.addPump(0, 0);
        x.addPump(200, 50);
        x.enrol(0, 0);
        x.pass(1);
        Check.due("the level of an empty well", x.pump(0, 0), 0);
        Check.due("the level of a full well", x.pump(1, 0), 200);
    }

    private static void inflowAtItsEnds() {
        Check.sentence("an inflow of a day, 0 to 50");
        PumpRoster x = new PumpRoster();
        x.addPump(7, 0);
        x.addPump(7, 50);
        x.pass(1);
        Check.due("the level without an inflow", x.pump(0, 0), 7);
        Check.due("the level by the greatest inflow", x.pump(1, 0), 57);
    }

    private static void wearAtFirst() {
        Check.sentence("a handle with wear, 0 or more (0, at first), that is whole or broken");
        PumpRoster x = Villages.withTurn(1, 0);
        Check.due("the wear", x.pump(0, 2), 0);
        Check.due("it is whole", x.pump(0, 3), 0);
        Check.due("the days to wait", x.pump(0, 4), 0);
        Check.due("count(9)", x.count(9), 0);
        x.leave(0, 30);
        x.pass(30);
        Check.due("the wear when nobody draws", x.pump(0, 2), 0);
    }

    private static void keyAtFirst() {
        Check.sentence("a key, which a house has or nobody (at first)");
        PumpRoster x = Villages.withTurn(1, 0);
        Check.due("pump(0, 5)", x.pump(0, 5), -1);
        Check.due("house(0, 10)", x.house(0, 10), 0);
        x.pass(1);
        Check.due("pump(0, 5) then", x.pump(0, 5), 0);
        Check.due("house(0, 10) then", x.house(0, 10), 1);
    }

    private static void rosterFullAndEmpty() {
        Check.sentence("a roster: a row of at most 10 different houses (empty, at first)");
        PumpRoster x = Villages.of(10, 1);
        Check.due("pump(0, 6) at first", x.pump(0, 6), 0);
        for (int house = 9; house >= 0; house--) {
            x.enrol(0, house);
        }
        Check.due("pump(0, 6) when full", x.pump(0, 6), 10);
        Check.dueText("the full roster", Villages.roster(x, 0), "9 8 7 6 5 4 3 2 1 0");
        for (int i = 0; i < 10; i++) {
            int house = i;
            Check.dueThrow("enrol(0, " + i + ") again", x, STATE, () -> x.enrol(0, house));
        }
        x.pass(11);
        Check.due("eleven days, the turn", x.pump(0, 7), 1);
        Check.due("the first has two duties", x.house(9, 6), 2);
        Check.due("the last has one", x.house(0, 6), 1);
    }

    private static void turnIsAPlace() {
        Check.sentence("with a turn, a place in it (0, at first)");
        PumpRoster x = Villages.withTurn(3, 0);
        Check.due("the turn of an empty roster", Villages.of(0, 1).pump(0, 7), 0);
        for (int day = 0; day < 7; day++) {
            Check.due("the turn on day " + day, x.pump(0, 7), day % 3);
            x.pass(1);
        }
    }

    private static void chestAtFirst() {
        Check.sentence("The village has a chest of eggs (0, at first).");
        PumpRoster x = Villages.of(2, 0);
        Check.due("count(3)", x.count(3), 0);
        x.fine(1, 1);
        Check.due("count(3) after a fine", x.count(3), 1);
    }

    private static void finePaidInFull() {
        Check.sentence("A fine of eggs: a house pays it to the chest");
        PumpRoster x = Villages.of(2, 0);
        Check.due("fine(0, 9) of 10", x.fine(0, 9), 9);
        Check.due("the egg that it keeps", x.house(0, 2), 1);
        Check.due("fine(1, 10) of 10", x.fine(1, 10), 10);
        Check.due("it keeps none", x.house(1, 2), 0);
        Check.due("the chest", x.count(3), 19);
        Check.due("no marks", x.count(6), 0);
    }

    private static void finePaidInPart() {
        Check.sentence("if it has fewer, it pays all that it has, and has a mark more, if it has fewer than 3");
        PumpRoster x = Villages.of(2, 0);
        Check.due("fine(0, 11) of 10", x.fine(0, 11), 10);
        Check.due("a mark", x.house(0, 3), 1);
        Check.due("no eggs", x.house(0, 2), 0);
        Check.due("fine(0, 1) of none", x.fine(0, 1), 0);
        Check.due("a second mark", x.house(0, 3), 2);
        Check.due("the chest", x.count(3), 10);
        Check.due("fine(0, 1) of none again", x.fine(0, 1), 0);
        Check.due("a third mark", x.house(0, 3), 3);
        Check.due("none of the other", x.house(1, 3), 0);
    }

    private static void noFourthMark() {
        Check.sentence("and has a mark more, if it has fewer than 3");
        PumpRoster x = new PumpRoster();
        x.addHouse(0, 5, 9);
        Villages.mark(x, 0, 3);
        x.pass(1);
        Check.due("fine(0, 6) of 5, with 3 marks", x.fine(0, 6), 5);
        Check.due("the marks", x.house(0, 3), 3);
        Check.due("count(6)", x.count(6), 3);
        Check.due("the fines that it was told", x.house(0, 9), 156);
    }

    private static void thirdMarkLeavesAllRosters() {
        Check.sentence("A house that comes to 3 marks by this leaves all rosters at once");
        PumpRoster x = Villages.of(10, 3);
        for (int house = 0; house < 10; house++) {
            x.enrol(0, house);
        }
        x.enrol(1, 4);
        x.enrol(2, 9);
        x.enrol(2, 4);
        Villages.mark(x, 4, 2);
        Check.dueText("with 2 marks: pump 0", Villages.roster(x, 0), "0 1 2 3 4 5 6 7 8 9");
        Check.dueText("with 2 marks: pump 1", Villages.roster(x, 1), "4");
        Check.due("fine(4, 1)", x.fine(4, 1), 0);
        Check.dueText("with 3 marks: pump 0, full before", Villages.roster(x, 0), "0 1 2 3 5 6 7 8 9");
        Check.dueText("with 3 marks: pump 1, left empty", Villages.roster(x, 1), "");
        Check.dueText("with 3 marks: pump 2, the last place", Villages.roster(x, 2), "9");
        for (int pump = 0; pump < 3; pump++) {
            Check.due("ahead(" + pump + ", 4)", x.ahead(pump, 4), -1);
        }
        PumpRoster onNone = Villages.withTurn(2, 1);
        onNone.addHouse(0, 0, 9);
        Villages.mark(onNone, 2, 3);
        Check.dueText("a house on no roster leaves none", Villages.roster(onNone, 0), "0 1");
        Check.due("and no turn moves", onNone.pump(0, 7), 1);
    }

    private static void thirdMarkByAnyFine() {
        Check.sentence("A house that comes to 3 marks by this leaves all rosters at once");
        PumpRoster byKey = new PumpRoster();
        byKey.addHouse(0, 0, 1);
        byKey.addHouse(0, 0, 9);
        byKey.addPump(200, 50);
        byKey.enrol(0, 0);
        byKey.enrol(0, 1);
        Villages.mark(byKey, 0, 2);
        byKey.pass(2);
        Check.due("marks by a key that is forgotten", byKey.house(0, 3), 3);
        Check.dueText("the roster then", Villages.roster(byKey, 0), "1");
        PumpRoster byHandle = new PumpRoster();
        byHandle.addHouse(8, 0, 9);
        byHandle.addPump(200, 50);
        byHandle.enrol(0, 0);
        Villages.mark(byHandle, 0, 2);
        byHandle.pass(9);
        Check.dueText("the roster before the handle breaks", Villages.roster(byHandle, 0), "0");
        byHandle.pass(1);
        Check.due("marks by a handle that breaks", byHandle.house(0, 3), 3);
        Check.dueText("the roster when it broke", Villages.roster(byHandle, 0), "");
    }

    private static void placesComeUp() {
        Check.sentence("the places behind it come up");
        String[] then = {"1 2 3", "0 2 3", "0 1 3", "0 1 2"};
        for (int house = 0; house < 4; house++) {
            PumpRoster x = Villages.withTurn(4, 0);
            Villages.mark(x, house, 3);
            Check.dueText("the roster without " + house, Villages.roster(x, 0), then[house]);
            Check.due("houses on it", x.pump(0, 6), 3);
            Check.dueThrow("roster(0, 3)", x, INDEX, () -> x.roster(0, 3));
        }
    }

    private static void turnBehindTheHouse() {
        Check.sentence("a turn behind it goes with its house");
        int[][] rows = {{0, 1}, {0, 2}, {0, 3}, {1, 2}, {1, 3}, {2, 3}};
        for (int[] row : rows) {
            PumpRoster x = Villages.withTurn(4, row[1]);
            Villages.mark(x, row[0], 3);
            Check.due("the turn " + row[1] + " when " + row[0] + " leaves", x.pump(0, 7), row[1] - 1);
            Check.due("the house there", x.roster(0, x.pump(0, 7)), row[1]);
        }
    }

    private static void turnAtTheHouse() {
        Check.sentence("one just at it stays at that place");
        for (int turn = 0; turn < 3; turn++) {
            PumpRoster x = Villages.withTurn(4, turn);
            Villages.mark(x, turn, 3);
            Check.due("the turn " + turn + " when " + turn + " leaves", x.pump(0, 7), turn);
            Check.due("the house there, the one behind", x.roster(0, turn), turn + 1);
        }
    }

    private static void turnBeyondTheLastPlace() {
        Check.sentence("a turn beyond the last place becomes 0");
        for (int houses = 1; houses <= 10; houses++) {
            PumpRoster x = Villages.withTurn(houses, houses - 1);
            Villages.mark(x, houses - 1, 3);
            Check.due("the turn at the last of " + houses + ", which leaves", x.pump(0, 7), 0);
        }
        PumpRoster emptied = Villages.withTurn(1, 1);
        Villages.mark(emptied, 0, 3);
        emptied.addHouse(0, 0, 9);
        emptied.enrol(0, 1);
        Check.due("ahead(0, 1) on the roster left empty", emptied.ahead(0, 1), 0);
    }

    private static void turnAheadOfTheHouse() {
        // None of these cases names it, so it stays where it is.
        Check.sentence("(a turn behind it goes with its house, one just at it stays at that place; "
                + "a turn beyond the last place becomes 0)");
        int[][] rows = {{1, 0}, {2, 0}, {3, 0}, {2, 1}, {3, 1}, {3, 2}};
        for (int[] row : rows) {
            PumpRoster x = Villages.withTurn(4, row[1]);
            Villages.mark(x, row[0], 3);
            Check.due("the turn " + row[1] + " when " + row[0] + " leaves", x.pump(0, 7), row[1]);
            Check.due("the house there", x.roster(0, row[1]), row[1]);
        }
    }

    private static void keyIsKept() {
        Check.sentence("a key that it has it keeps");
        PumpRoster x = Villages.withTurn(2, 1);
        Villages.mark(x, 0, 3);
        Check.due("the key", x.pump(0, 5), 0);
        Check.due("keys that it has", x.house(0, 10), 1);
        x.pass(1);
        Check.due("off the roster, it hands the key on", x.pump(0, 5), 1);
        Check.due("a key that it was to hand on", x.house(0, 8), 1);
        Check.due("keys that it has then", x.house(0, 10), 0);
    }

    private static void refusedCallsChangeNothing() {
        Check.sentence("A method that throws an exception changes nothing.");
        PumpRoster x = Villages.busy();
        Villages.mark(x, 1, 3);
        PumpRoster twin = Villages.busy();
        Villages.mark(twin, 1, 3);
        Check.dueThrow("addHouse(10, 0, 1)", x, ARGUMENT, () -> x.addHouse(10, 0, 1));
        Check.dueThrow("addHouse(0, 10, 1)", x, ARGUMENT, () -> x.addHouse(0, 10, 1));
        Check.dueThrow("addHouse(0, 0, 10)", x, ARGUMENT, () -> x.addHouse(0, 0, 10));
        Check.dueThrow("addPump(201, 0)", x, ARGUMENT, () -> x.addPump(201, 0));
        Check.dueThrow("addPump(0, 51)", x, ARGUMENT, () -> x.addPump(0, 51));
        Check.dueThrow("lodge(4, 1)", x, INDEX, () -> x.lodge(4, 1));
        Check.dueThrow("lodge(0, 10)", x, ARGUMENT, () -> x.lodge(0, 10));
        Check.dueThrow("prefer(4, 1)", x, INDEX, () -> x.prefer(4, 1));
        Check.dueThrow("prefer(0, 2)", x, INDEX, () -> x.prefer(0, 2));
        Check.dueThrow("leave(4, 1)", x, INDEX, () -> x.leave(4, 1));
        Check.dueThrow("leave(2, 31)", x, ARGUMENT, () -> x.leave(2, 31));
        Check.dueThrow("fine(4, 1)", x, INDEX, () -> x.fine(4, 1));
        Check.dueThrow("fine(2, 51)", x, ARGUMENT, () -> x.fine(2, 51));
        Check.dueThrow("enrol(2, 0)", x, INDEX, () -> x.enrol(2, 0));
        Check.dueThrow("enrol(1, 4)", x, INDEX, () -> x.enrol(1, 4));
        Check.dueThrow("enrol(0, 0)", x, STATE, () -> x.enrol(0, 0));
        Check.dueThrow("enrol(1, 1)", x, STATE, () -> x.enrol(1, 1));
        Check.dueThrow("change(2, 0, 1)", x, INDEX, () -> x.change(2, 0, 1));
        Check.dueThrow("change(0, 0, 2)", x, INDEX, () -> x.change(0, 0, 2));
        Check.dueThrow("change(0, 2, 0)", x, INDEX, () -> x.change(0, 2, 0));
        Check.dueThrow("roster(0, 2)", x, INDEX, () -> x.roster(0, 2));
        Check.dueThrow("ahead(0, 4)", x, INDEX, () -> x.ahead(0, 4));
        Check.dueThrow("house(0, 11)", x, INDEX, () -> x.house(0, 11));
        Check.dueThrow("pump(0, 11)", x, INDEX, () -> x.pump(0, 11));
        Check.dueThrow("pass(0)", x, ARGUMENT, () -> x.pass(0));
        Check.dueThrow("pass(101)", x, ARGUMENT, () -> x.pass(101));
        Check.dueThrow("count(10)", x, INDEX, () -> x.count(10));
        Check.dueThrow("foresee(101, 0)", x, ARGUMENT, () -> x.foresee(101, 0));
        Check.dueThrow("foresee(9, 4)", x, INDEX, () -> x.foresee(9, 4));
        Check.dueThrow("advise(4, 9)", x, INDEX, () -> x.advise(4, 9));
        Check.dueThrow("advise(0, 51)", x, ARGUMENT, () -> x.advise(0, 51));
        Check.dueThrow("unfair(2)", x, INDEX, () -> x.unfair(2));
        // The days that follow tell of what digest() does not: which key a house forgets.
        for (int i = 0; i < 30; i++) {
            Check.due("pass(2) as if no call had been refused", x.pass(2), twin.pass(2));
            Check.due("digest() as if no call had been refused", x.digest(), twin.digest());
        }
    }

    private static void theFirstExceptionIsThrown() {
        Check.sentence("If several exceptions apply, the one that is named first is thrown.");
        PumpRoster x = Villages.of(10, 3);
        x.enrol(0, 0);
        Check.dueThrow("addHouse(10, 0, 1) with 10 houses", x, ARGUMENT, () -> x.addHouse(10, 0, 1));
        Check.dueThrow("addHouse(0, -1, 1) with 10 houses", x, ARGUMENT, () -> x.addHouse(0, -1, 1));
        Check.dueThrow("addHouse(0, 0, 0) with 10 houses", x, ARGUMENT, () -> x.addHouse(0, 0, 0));
        Check.dueThrow("addPump(201, 0) with 3 pumps", x, ARGUMENT, () -> x.addPump(201, 0));
        Check.dueThrow("addPump(0, -1) with 3 pumps", x, ARGUMENT, () -> x.addPump(0, -1));
        Check.dueThrow("lodge(10, 10)", x, INDEX, () -> x.lodge(10, 10));
        Check.dueThrow("leave(10, 31)", x, INDEX, () -> x.leave(10, 31));
        Check.dueThrow("fine(10, 51)", x, INDEX, () -> x.fine(10, 51));
        Check.dueThrow("enrol(3, 0), a house that is on a roster", x, INDEX, () -> x.enrol(3, 0));
        Villages.mark(x, 5, 3);
        Check.dueThrow("enrol(3, 5), with 3 marks", x, INDEX, () -> x.enrol(3, 5));
        Check.dueThrow("foresee(0, 4)", x, ARGUMENT, () -> x.foresee(0, 4));
        Check.dueThrow("foresee(101, -1)", x, ARGUMENT, () -> x.foresee(101, -1));
        Check.dueThrow("advise(10, 0)", x, INDEX, () -> x.advise(10, 0));
        Check.dueThrow("advise(-1, 51)", x, INDEX, () -> x.advise(-1, 51));
    }
}
