/** Villages that several tests begin with. */
final class Villages {

    private Villages() {
    }

    /** Houses without lodgers and hens, which forget each ninth key; full wells. */
    static PumpRoster of(int houses, int pumps) {
        PumpRoster x = new PumpRoster();
        for (int house = 0; house < houses; house++) {
            x.addHouse(0, 0, 9);
        }
        for (int pump = 0; pump < pumps; pump++) {
            x.addPump(200, 50);
        }
        return x;
    }

    /** The same, with all houses on the roster of the pump 0, in their order, and its turn moved by so many days. */
    static PumpRoster withTurn(int houses, int turn) {
        PumpRoster x = of(houses, 1);
        for (int house = 0; house < houses; house++) {
            x.enrol(0, house);
        }
        if (turn > 0) {
            x.pass(turn);
        }
        return x;
    }

    /** Fines a house that has fewer than 50 eggs so often that it has so many marks more. */
    static void mark(PumpRoster x, int house, int marks) {
        for (int i = 0; i < marks; i++) {
            x.fine(house, 50);
        }
    }

    /** What stands on a roster, as one text. */
    static String roster(PumpRoster x, int pump) {
        StringBuilder row = new StringBuilder();
        for (int place = 0; place < x.pump(pump, 6); place++) {
            row.append(place == 0 ? "" : " ").append(x.roster(pump, place));
        }
        return row.toString();
    }

    /** A village in which keys are forgotten, handles break, and marks and thirst come. */
    static PumpRoster busy() {
        PumpRoster x = new PumpRoster();
        x.addHouse(9, 1, 2);
        x.addHouse(5, 0, 4);
        x.addHouse(7, 1, 3);
        x.addHouse(2, 0, 5);
        x.addPump(150, 20);
        x.addPump(60, 9);
        x.enrol(0, 0);
        x.enrol(0, 1);
        x.enrol(0, 2);
        x.enrol(1, 2);
        x.enrol(1, 3);
        x.enrol(1, 1);
        x.prefer(2, 1);
        x.pass(3);
        x.leave(0, 4);
        return x;
    }
}
