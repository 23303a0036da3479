/** The boundary cases of the seven steps of a day. */
public final class DayBoundariesTest {

    public static void main(String[] args) {
        eggsOfHousesThatAreThere();
        eggsAheadOfTheKeys();
        dutyRoundTheRoster();
        dutyOfNobody();
        dutyOfAnEmptyRoster();
        turnBehindTheDuty();
        turnAheadOfAllThatFollows();
        pumpByPump();
        keyOfTheDutyOrOfNobody();
        holderIsAway();
        holderForgets();
        holderForgetsOnAnyPump();
        fineForAKeyAtItsEdge();
        holderHandsOn();
        openPumpsCountDuties();
        ascendingOrder();
        onlyHousesThatAreThereDraw();
        roundThePumps();
        eachPumpOnce();
        notFromAClosedPump();
        notFromABrokenPump();
        notFromADryPump();
        asManyAsInTheWell();
        handleBreaksAt100();
        fineForAHandleAtItsEdge();
        brokenForTheNextInTheSameDay();
        thirstIsAddedUp();
        waitsNotInTheDayOfTheBreak();
        mendedWithTenEggs();
        brokenWithNineEggs();
        lookedAtOnEachDay();
        wearAnewWhenMended();
        handlesPumpByPump();
        wellsAtMost200();
        inflowAfterTheWater();
        remainder6By7();
        moreThan20Eggs();
        sharedWithoutMarks();
        shareIsCut();
        nobodyToShareWith();
        sharedAfterMending();
        awayForADayLess();
        dayIsOneGreater();
        Check.finish("DayBoundariesTest");
    }

    // ---- 1. Eggs.

    private static void eggsOfHousesThatAreThere() {
        Check.sentence("1. Each house that is there has as many eggs more as it has hens.");
        PumpRoster x = new PumpRoster();
        x.addHouse(0, 0, 9);
        x.addHouse(0, 9, 9);
        x.addHouse(0, 9, 9);
        x.leave(2, 1);
        x.pass(1);
        Check.due("without hens", x.house(0, 2), 10);
        Check.due("with nine", x.house(1, 2), 19);
        Check.due("with nine, away", x.house(2, 2), 10);
        x.pass(1);
        Check.due("with nine, on the day after", x.house(2, 2), 19);
    }

    private static void eggsAheadOfTheKeys() {
        Check.sentence("A day goes like this:");
        PumpRoster x = new PumpRoster();
        x.addHouse(0, 3, 1);
        x.addHouse(0, 0, 9);
        x.addPump(200, 50);
        x.enrol(0, 0);
        x.enrol(0, 1);
        x.fine(0, 10);
        x.pass(1);
        x.fine(0, 3);
        Check.due("no eggs are left", x.house(0, 2), 0);
        x.pass(1);
        Check.due("told the fine for the key", x.house(0, 9), 16);
        Check.due("which it pays with the eggs of the day", x.house(0, 2), 0);
        Check.due("and has no mark", x.house(0, 3), 0);
    }

    // ---- 2. Keys.

    private static void dutyRoundTheRoster() {
        Check.sentence("the duty is of the first house from the place of the turn on, round the roster, that is there");
        dueDuty(0, 0);
        dueDuty(0, 1, 0);
        dueDuty(0, 2, 0, 1);
        dueDuty(0, 3, 0, 1, 2);
        dueDuty(3, 3);
        dueDuty(3, 0, 3);
        dueDuty(3, 1, 3, 0);
        dueDuty(3, 2, 3, 0, 1);
        dueDuty(2, 1, 2, 3, 0);
    }

    /** The house with the duty, of four, by the turn and the houses that are away. */
    private static void dueDuty(int turn, int duty, int... away) {
        PumpRoster x = Villages.withTurn(4, turn);
        for (int house : away) {
            x.leave(house, 5);
        }
        // The one that has the key is there in all these cases, or nobody has it.
        int before = x.house(duty, 6);
        x.pass(1);
        Check.due("turn " + turn + ", " + away.length + " away: who has the key", x.pump(0, 5), duty);
        Check.due("turn " + turn + ", " + away.length + " away: its duties", x.house(duty, 6), before + 1);
        Check.due("turn " + turn + ", " + away.length + " away: the turn then", x.pump(0, 7), (duty + 1) % 4);
    }

    private static void dutyOfNobody() {
        Check.sentence("with none (or an empty roster) the pump is closed, and the turn stays");
        PumpRoster x = Villages.withTurn(3, 2);
        x.addHouse(0, 0, 9);
        for (int house = 0; house < 3; house++) {
            x.leave(house, 2);
        }
        Check.due("nothing is drawn, though house 3 is there", x.pass(2), 0);
        Check.due("the turn", x.pump(0, 7), 2);
        Check.due("days on which it was open", x.pump(0, 8), 2);
        Check.due("the key", x.pump(0, 5), 1);
        Check.due("no key was to hand on", x.house(1, 8), 0);
        Check.due("and no fine to pay", x.house(1, 9), 0);
        x.pass(1);
        Check.due("then the one at the turn has the duty", x.pump(0, 5), 2);
    }

    private static void dutyOfAnEmptyRoster() {
        Check.sentence("(or an empty roster) the pump is closed, and the turn stays");
        PumpRoster x = Villages.of(1, 2);
        x.enrol(1, 0);
        x.prefer(0, 0);
        x.pass(3);
        Check.due("days on which it was open", x.pump(0, 8), 0);
        Check.due("buckets", x.pump(0, 9), 0);
        Check.due("the key", x.pump(0, 5), -1);
        Check.due("the turn", x.pump(0, 7), 0);
        Villages.mark(x, 0, 3);
        x.pass(3);
        Check.due("left empty: days on which it was open", x.pump(1, 8), 3);
        Check.due("left empty: the key", x.pump(1, 5), 0);
        Check.due("left empty: no key to hand on", x.house(0, 8), 0);
        Check.due("left empty: the turn", x.pump(1, 7), 0);
    }

    private static void turnBehindTheDuty() {
        Check.sentence("Otherwise the turn is the next place behind the duty then, round the roster");
        for (int houses = 1; houses <= 10; houses++) {
            PumpRoster x = Villages.withTurn(houses, houses - 1);
            Check.due("at the last place of " + houses, x.pump(0, 7), houses - 1);
            x.pass(1);
            Check.due("behind the last place of " + houses, x.pump(0, 7), 0);
        }
        PumpRoster x = Villages.withTurn(3, 1);
        x.leave(1, 1);
        x.pass(1);
        Check.due("behind the duty of house 2 for house 1", x.pump(0, 7), 0);
        PumpRoster closed = Villages.withTurn(3, 1);
        closed.leave(0, 1);
        closed.pass(1);
        Check.due("closed, as the key is away", closed.pump(0, 8), 1);
        Check.due("the turn moves all the same", closed.pump(0, 7), 2);
    }

    private static void turnAheadOfAllThatFollows() {
        Check.sentence("(ahead of all that follows)");
        // House 0 has the key and 2 marks, and forgets: it leaves when the turn has moved from 1 to 2 already.
        PumpRoster x = forgetful(3, 10);
        x.pass(1);
        Villages.mark(x, 0, 2);
        x.pass(1);
        Check.dueText("the roster", Villages.roster(x, 0), "1 2");
        Check.due("the turn, with its house", x.pump(0, 7), 1);
        Check.due("ahead(0, 2)", x.ahead(0, 2), 0);
        // Two houses: the turn has moved from 1 to 0, where house 0 is, and stays at that place.
        PumpRoster y = forgetful(2, 10);
        y.pass(1);
        Villages.mark(y, 0, 2);
        y.pass(1);
        Check.dueText("the roster of one", Villages.roster(y, 0), "1");
        Check.due("the turn of one", y.pump(0, 7), 0);
    }

    /** House 0 forgets each key; all are on the roster of the one pump; house 0 has so many eggs, at most 10. */
    private static PumpRoster forgetful(int houses, int eggs) {
        PumpRoster x = new PumpRoster();
        x.addHouse(0, 0, 1);
        for (int house = 1; house < houses; house++) {
            x.addHouse(0, 0, 9);
        }
        x.addPump(200, 50);
        for (int house = 0; house < houses; house++) {
            x.enrol(0, house);
        }
        if (eggs < 10) {
            x.fine(0, 10 - eggs);
        }
        return x;
    }

    private static void pumpByPump() {
        Check.sentence("2. Keys, pump by pump");
        // By the fine for the key of pump 0, house 0 leaves the roster of pump 1 ahead of its duty there.
        PumpRoster x = forgetful(2, 10);
        x.addPump(200, 50);
        x.enrol(1, 0);
        x.enrol(1, 1);
        x.pass(1);
        Villages.mark(x, 0, 2);
        x.change(1, 0, 1);
        Check.due("at the turn of pump 1", x.roster(1, x.pump(1, 7)), 0);
        x.pass(1);
        Check.due("no more duties of house 0", x.house(0, 6), 2);
        Check.dueText("the roster of pump 1", Villages.roster(x, 1), "1");
        Check.due("two keys that it was to hand on", x.house(0, 8), 2);
    }

    private static void keyOfTheDutyOrOfNobody() {
        Check.sentence("If the house with the duty has the key, or nobody has (then it gets it), the pump is open.");
        PumpRoster x = forgetful(1, 10);
        Check.due("nobody has the key", x.pump(0, 5), -1);
        x.pass(1);
        Check.due("then house 0", x.pump(0, 5), 0);
        Check.due("open", x.pump(0, 8), 1);
        x.pass(9);
        Check.due("open with its own key", x.pump(0, 8), 10);
        Check.due("which it has not to hand on", x.house(0, 8), 0);
        Check.due("and pays nothing for", x.house(0, 9), 0);
    }

    private static void holderIsAway() {
        Check.sentence("Otherwise the house that has the key is to hand it on: if it is away, the pump is closed, "
                + "and it pays a fine of 3");
        PumpRoster x = Villages.withTurn(2, 1);
        x.leave(0, 1);
        Check.due("nothing is drawn", x.pass(1), 0);
        Check.due("days on which it was open", x.pump(0, 8), 1);
        Check.due("the fine", x.house(0, 9), 3);
        Check.due("its eggs", x.house(0, 2), 7);
        Check.due("the chest", x.count(3), 3);
        Check.due("it keeps the key", x.pump(0, 5), 0);
        Check.due("no key more that it was to hand on", x.house(0, 8), 0);
        Check.due("no duty of the other", x.house(1, 6), 0);
        Check.due("the turn", x.pump(0, 7), 0);
    }

    private static void holderForgets() {
        Check.sentence("if it is there, it has one key more that it was to hand on: if the number of these can be divided "
                + "by that which it forgets, the pump is closed, and it pays a fine of 3");
        for (int forgets = 1; forgets <= 9; forgets++) {
            PumpRoster x = new PumpRoster();
            x.addHouse(0, 9, forgets);
            x.addHouse(0, 9, 9);
            x.addPump(200, 50);
            x.enrol(0, 0);
            x.enrol(0, 1);
            int keys = 0;
            int fines = 0;
            for (int day = 0; day < 16; day++) {
                int open = x.pump(0, 8);
                int duties = x.house(0, 6) + x.house(1, 6);
                x.pass(1);
                boolean toHandOn = x.house(0, 8) > keys;
                keys += toHandOn ? 1 : 0;
                boolean forgotten = toHandOn && keys % forgets == 0;
                fines += forgotten ? 3 : 0;
                Check.due("keys to hand on, by " + forgets, x.house(0, 8), keys);
                Check.due("its fines, by " + forgets, x.house(0, 9), fines);
                Check.due("open, by " + forgets, x.pump(0, 8), open + (forgotten ? 0 : 1));
                Check.due("duties, by " + forgets, x.house(0, 6) + x.house(1, 6), duties + (forgotten ? 0 : 1));
                Check.due("the key, by " + forgets, x.pump(0, 5), forgotten || day % 2 == 0 ? 0 : 1);
            }
            Check.due("house 1 forgets none of its first eight, by " + forgets, x.house(1, 9), 0);
            Check.due("it was seen to forget, by " + forgets, fines > 0 || forgets > 8 ? 1 : 0, 1);
        }
    }

    private static void holderForgetsOnAnyPump() {
        Check.sentence("it has one key more that it was to hand on: if the number of these can be divided by that which "
                + "it forgets");
        // The keys of all pumps are told together: of each two, house 0 forgets that of pump 1.
        PumpRoster x = new PumpRoster();
        x.addHouse(0, 0, 2);
        x.addHouse(0, 0, 9);
        for (int pump = 0; pump < 2; pump++) {
            x.addPump(200, 50);
            x.enrol(pump, 0);
            x.enrol(pump, 1);
        }
        x.pass(2);
        Check.due("keys to hand on", x.house(0, 8), 2);
        Check.due("the key of pump 0", x.pump(0, 5), 1);
        Check.due("the key of pump 1", x.pump(1, 5), 0);
        Check.due("one fine", x.house(0, 9), 3);
    }

    private static void fineForAKeyAtItsEdge() {
        Check.sentence("the pump is closed, and it pays a fine of 3");
        for (int eggs = 0; eggs <= 4; eggs++) {
            PumpRoster forgets = forgetful(2, eggs);
            forgets.pass(2);
            Check.due("forgotten, its eggs of " + eggs, forgets.house(0, 2), Math.max(0, eggs - 3));
            Check.due("forgotten, its marks by " + eggs, forgets.house(0, 3), eggs < 3 ? 1 : 0);
            Check.due("forgotten, the chest", forgets.count(3), 10 - eggs + Math.min(3, eggs));
            PumpRoster away = forgetful(2, eggs);
            away.pass(1);
            away.leave(0, 1);
            away.pass(1);
            Check.due("away, its eggs of " + eggs, away.house(0, 2), Math.max(0, eggs - 3));
            Check.due("away, its marks by " + eggs, away.house(0, 3), eggs < 3 ? 1 : 0);
            Check.due("away, the chest", away.count(3), 10 - eggs + Math.min(3, eggs));
        }
    }

    private static void holderHandsOn() {
        Check.sentence("else the house with the duty has the key, and the pump is open");
        PumpRoster x = Villages.withTurn(2, 1);
        Check.due("both draw", x.pass(1), 4);
        Check.due("the key", x.pump(0, 5), 1);
        Check.due("open", x.pump(0, 8), 2);
        Check.due("keys of house 0", x.house(0, 10), 0);
        Check.due("keys of house 1", x.house(1, 10), 1);
        Check.due("no fines", x.count(3), 0);
    }

    private static void openPumpsCountDuties() {
        Check.sentence("An open pump counts a duty of this house.");
        // Pump 0 is dry, and the handle of pump 1 breaks after ten days; both are open all the same.
        PumpRoster x = new PumpRoster();
        x.addHouse(8, 0, 9);
        x.addPump(0, 0);
        x.addPump(200, 50);
        x.enrol(0, 0);
        x.pass(2);
        Check.due("duties at a dry pump", x.house(0, 6), 2);
        x.enrol(1, 0);
        x.pass(10);
        Check.due("duties at two pumps", x.house(0, 6), 2 + 2 * 10);
        Check.due("broken", x.pump(1, 3), 1);
        x.pass(1);
        Check.due("duties, at a broken pump too", x.house(0, 6), 2 + 2 * 11);
        Check.due("days on which the dry pump was open", x.pump(0, 8), 13);
        Check.due("days on which the broken pump was open", x.pump(1, 8), 11);
        PumpRoster closed = forgetful(2, 10);
        closed.pass(2);
        Check.due("no duty of house 1 at a closed pump", closed.house(1, 6), 0);
        Check.due("one of house 0 on the day before", closed.house(0, 6), 1);
    }

    // ---- 3. Water.

    private static void ascendingOrder() {
        Check.sentence("3. Water: each house that is there, in ascending order, draws what it needs from pumps");
        PumpRoster x = new PumpRoster();
        for (int house = 0; house < 3; house++) {
            x.addHouse(house, 0, 9);
        }
        x.addPump(4, 0);
        x.enrol(0, 2);
        x.enrol(0, 0);
        Check.due("pass(1)", x.pass(1), 4);
        Check.due("house 0 has its 2", x.house(0, 7), 0);
        Check.due("house 1 has 2 of 3", x.house(1, 7), 1);
        Check.due("house 2 has none of 4, though it has the duty", x.house(2, 7), 4);
    }

    private static void onlyHousesThatAreThereDraw() {
        Check.sentence("3. Water: each house that is there");
        PumpRoster x = new PumpRoster();
        x.addHouse(9, 0, 9);
        x.addHouse(9, 0, 9);
        x.addPump(11, 0);
        x.enrol(0, 1);
        x.leave(0, 1);
        Check.due("pass(1)", x.pass(1), 11);
        Check.due("no thirst of the house that is away", x.house(0, 7), 0);
        Check.due("no thirst of the other", x.house(1, 7), 0);
    }

    private static void roundThePumps() {
        Check.sentence("beginning with that to which it goes first, then the following ones, "
                + "behind the last one the pump 0");
        int[][] drawn = {{5, 3, 0}, {0, 5, 3}, {3, 0, 5}};
        for (int first = 0; first < 3; first++) {
            PumpRoster x = new PumpRoster();
            x.addHouse(6, 0, 9);
            for (int pump = 0; pump < 3; pump++) {
                x.addPump(5, 0);
                x.enrol(pump, 0);
            }
            x.prefer(0, first);
            x.pass(1);
            for (int pump = 0; pump < 3; pump++) {
                Check.due("first " + first + ": drawn from " + pump, x.pump(pump, 9), drawn[first][pump]);
            }
        }
        PumpRoster two = new PumpRoster();
        two.addHouse(6, 0, 9);
        two.addPump(5, 0);
        two.addPump(5, 0);
        two.enrol(0, 0);
        two.enrol(1, 0);
        two.prefer(0, 1);
        two.pass(1);
        Check.due("of two, first 1: drawn from 0", two.pump(0, 9), 3);
        Check.due("of two, first 1: drawn from 1", two.pump(1, 9), 5);
    }

    private static void eachPumpOnce() {
        Check.sentence("behind the last one the pump 0, each once");
        for (int pumps = 0; pumps <= 3; pumps++) {
            PumpRoster x = new PumpRoster();
            x.addHouse(9, 0, 9);
            for (int pump = 0; pump < pumps; pump++) {
                x.addPump(3, 0);
                x.enrol(pump, 0);
            }
            if (pumps > 0) {
                x.prefer(0, pumps - 1);
            }
            Check.due("pass(1) with " + pumps + " pumps", x.pass(1), 3 * pumps);
            Check.due("thirst with " + pumps + " pumps", x.house(0, 7), 11 - 3 * pumps);
        }
    }

    private static void notFromAClosedPump() {
        Check.sentence("from each that is open, whole, and not dry");
        PumpRoster x = Villages.of(1, 2);
        x.enrol(1, 0);
        x.pass(1);
        Check.due("drawn from the closed pump 0", x.pump(0, 9), 0);
        Check.due("its wear", x.pump(0, 2), 0);
        Check.due("drawn from the open pump 1", x.pump(1, 9), 2);
    }

    /** One house that needs 11 buckets and is on all rosters; the handle of pump 0 has the wear 99 after 9 days. */
    private static PumpRoster wornTo99(int hens) {
        PumpRoster x = new PumpRoster();
        x.addHouse(9, hens, 9);
        x.addPump(200, 50);
        x.addPump(200, 50);
        x.enrol(0, 0);
        x.enrol(1, 0);
        x.pass(9);
        return x;
    }

    private static void notFromABrokenPump() {
        Check.sentence("from each that is open, whole, and not dry");
        PumpRoster x = wornTo99(0);
        x.pass(1);
        Check.due("pump 0 is broken", x.pump(0, 3), 1);
        x.pass(1);
        Check.due("drawn from the broken pump 0", x.pump(0, 9), 110);
        Check.due("its wear", x.pump(0, 2), 110);
        Check.due("drawn from the whole pump 1", x.pump(1, 9), 11);
        Check.due("no thirst", x.house(0, 7), 0);
    }

    private static void notFromADryPump() {
        Check.sentence("from each that is open, whole, and not dry");
        PumpRoster x = new PumpRoster();
        x.addHouse(0, 0, 9);
        x.addPump(0, 0);
        x.addPump(2, 0);
        x.enrol(0, 0);
        x.enrol(1, 0);
        Check.due("pass(1)", x.pass(1), 2);
        Check.due("the wear of the dry pump", x.pump(0, 2), 0);
        Check.due("its level", x.pump(0, 0), 0);
        Check.due("no thirst", x.house(0, 7), 0);
        Check.due("both dry", x.pass(1), 0);
        Check.due("thirst", x.house(0, 7), 2);
    }

    private static void asManyAsInTheWell() {
        Check.sentence("as many buckets as it still needs, or all that are in the well");
        for (int level = 0; level <= 13; level++) {
            PumpRoster x = new PumpRoster();
            x.addHouse(9, 0, 9);
            x.addPump(level, 0);
            x.enrol(0, 0);
            Check.due("pass(1) of " + level, x.pass(1), Math.min(11, level));
            Check.due("the level left of " + level, x.pump(0, 0), Math.max(0, level - 11));
            Check.due("the wear by " + level, x.pump(0, 2), Math.min(11, level));
            Check.due("the thirst by " + level, x.house(0, 7), Math.max(0, 11 - level));
        }
    }

    private static void handleBreaksAt100() {
        Check.sentence("The wear of the handle is as many more; if it is 100 or more then, the handle breaks "
                + "(it waits 3 days to be mended)");
        PumpRoster at99 = wornTo99(0);
        Check.due("wear 99", at99.pump(0, 2), 99);
        Check.due("wear 99: whole", at99.pump(0, 3), 0);
        Check.due("wear 99: no days to wait", at99.pump(0, 4), 0);
        at99.pass(1);
        Check.due("wear 110: all that was needed is drawn", at99.pump(0, 2), 110);
        Check.due("wear 110: broken", at99.pump(0, 3), 1);
        Check.due("wear 110: days to wait", at99.pump(0, 4), 3);
        PumpRoster at100 = new PumpRoster();
        at100.addHouse(8, 0, 9);
        at100.addPump(200, 50);
        at100.enrol(0, 0);
        at100.pass(10);
        Check.due("wear 100", at100.pump(0, 2), 100);
        Check.due("wear 100: broken", at100.pump(0, 3), 1);
        Check.due("wear 100: days to wait", at100.pump(0, 4), 3);
        Check.due("count(9)", at100.count(9), 1);
    }

    private static void fineForAHandleAtItsEdge() {
        Check.sentence("and the house pays a fine of 5");
        for (int eggs = 0; eggs <= 6; eggs++) {
            PumpRoster x = wornTo99(0);
            x.fine(0, 10 - eggs);
            x.pass(1);
            Check.due("its eggs of " + eggs, x.house(0, 2), Math.max(0, eggs - 5));
            Check.due("its marks by " + eggs, x.house(0, 3), eggs < 5 ? 1 : 0);
            Check.due("the fines told by " + eggs, x.house(0, 9), 10 - eggs + 5);
            Check.due("the chest by " + eggs, x.count(3), 10 - eggs + Math.min(5, eggs));
        }
    }

    private static void brokenForTheNextInTheSameDay() {
        Check.sentence("the handle breaks (it waits 3 days to be mended), and the house pays a fine of 5");
        PumpRoster x = new PumpRoster();
        x.addHouse(8, 0, 9);
        x.addHouse(8, 0, 9);
        x.addHouse(8, 0, 9);
        x.addPump(200, 50);
        x.enrol(0, 0);
        x.pass(3);
        Check.due("the wear of three days", x.pump(0, 2), 90);
        Check.due("on the fourth day house 0 alone draws", x.pass(1), 10);
        Check.due("the fine of house 0", x.house(0, 9), 5);
        Check.due("no fine of house 1", x.house(1, 9), 0);
        Check.due("thirst of house 0", x.house(0, 7), 0);
        Check.due("thirst of house 1", x.house(1, 7), 10);
        Check.due("thirst of house 2", x.house(2, 7), 10);
    }

    private static void thirstIsAddedUp() {
        Check.sentence("What a house needs and does not get is thirst of it, added up.");
        PumpRoster x = new PumpRoster();
        x.addHouse(9, 0, 9);
        x.addPump(8, 7);
        x.enrol(0, 0);
        x.pass(1);
        Check.due("a part of it on the first day", x.house(0, 7), 3);
        x.pass(2);
        Check.due("and on two more", x.house(0, 7), 3 + 4 + 4);
        x.lodge(0, 0);
        x.pass(1);
        Check.due("nothing more when it gets all", x.house(0, 7), 11);
        Check.due("count(7)", x.count(7), 11);
    }

    // ---- 4. Handles.

    private static void waitsNotInTheDayOfTheBreak() {
        Check.sentence("a broken one that waits has a day less to wait (not in the day in which it breaks)");
        PumpRoster x = wornTo99(9);
        for (int waits = 3; waits >= 1; waits--) {
            x.pass(1);
            Check.due("the days to wait", x.pump(0, 4), waits);
            Check.due("it is broken", x.pump(0, 3), 1);
        }
        x.fine(0, 50);
        x.pass(1);
        Check.due("it waits no more", x.pump(0, 4), 0);
        Check.due("and is whole", x.pump(0, 3), 0);
    }

    /** The handle of pump 0 broke two days ago, and waits a day yet; the chest has so many eggs, 10 at least. */
    private static PumpRoster aDayToWait(int eggs) {
        PumpRoster x = wornTo99(0);
        x.addHouse(0, 0, 9);
        x.addHouse(0, 0, 9);
        x.leave(1, 30);
        x.leave(2, 30);
        x.pass(3);
        x.fine(1, Math.min(10, eggs - 5));
        if (eggs > 15) {
            x.fine(2, eggs - 15);
        }
        return x;
    }

    private static void mendedWithTenEggs() {
        Check.sentence("if it does not wait any more then, and the chest has 10 eggs, these are paid, and it is whole, "
                + "with the wear 0");
        for (int eggs = 10; eggs <= 12; eggs++) {
            PumpRoster x = aDayToWait(eggs);
            Check.due("the chest", x.count(3), eggs);
            Check.due("a day to wait", x.pump(0, 4), 1);
            x.pass(1);
            Check.due("whole by " + eggs, x.pump(0, 3), 0);
            Check.due("the wear by " + eggs, x.pump(0, 2), 0);
            Check.due("the chest by " + eggs, x.count(3), eggs - 10);
            Check.due("mended by " + eggs, x.pump(0, 10), 1);
            Check.due("no water of it on that day, by " + eggs, x.pump(0, 9), 110);
            x.pass(1);
            Check.due("but on the next, by " + eggs, x.pump(0, 9), 121);
        }
    }

    private static void brokenWithNineEggs() {
        Check.sentence("(If the chest has fewer, it stays broken");
        PumpRoster x = aDayToWait(9);
        Check.due("the chest", x.count(3), 9);
        x.leave(0, 30);
        x.pass(1);
        Check.due("it stays broken", x.pump(0, 3), 1);
        Check.due("the days to wait", x.pump(0, 4), 0);
        Check.due("the wear", x.pump(0, 2), 110);
        Check.due("the chest keeps its eggs", x.count(3), 9);
        Check.due("never mended", x.pump(0, 10), 0);
    }

    private static void lookedAtOnEachDay() {
        Check.sentence("it stays broken, and is looked at again on each day.)");
        PumpRoster x = aDayToWait(9);
        x.leave(0, 30);
        for (int day = 0; day < 12; day++) {
            x.pass(1);
            Check.due("broken yet", x.pump(0, 3), 1);
            Check.due("no fewer than 0 days to wait", x.pump(0, 4), 0);
        }
        x.fine(2, 1);
        x.pass(1);
        Check.due("whole by the tenth egg", x.pump(0, 3), 0);
        Check.due("the chest", x.count(3), 0);
    }

    private static void wearAnewWhenMended() {
        Check.sentence("it is whole, with the wear 0");
        PumpRoster x = aDayToWait(10);
        x.pass(10);
        Check.due("the wear of nine days more", x.pump(0, 2), 99);
        Check.due("whole", x.pump(0, 3), 0);
        x.pass(1);
        Check.due("broken a second time", x.pump(0, 3), 1);
        Check.due("waits three days again", x.pump(0, 4), 3);
        x.fine(1, 5);
        x.fine(2, 10);
        x.pass(3);
        Check.due("mended a second time", x.pump(0, 10), 2);
        Check.due("all buckets of it", x.pump(0, 9), 220);
    }

    private static void handlesPumpByPump() {
        Check.sentence("4. Handles, pump by pump");
        for (int eggs = 15; eggs <= 21; eggs++) {
            PumpRoster x = new PumpRoster();
            x.addHouse(9, 0, 9);
            x.addHouse(9, 0, 9);
            x.addHouse(0, 0, 9);
            x.leave(2, 30);
            x.addPump(200, 50);
            x.addPump(200, 50);
            x.enrol(0, 0);
            x.enrol(1, 1);
            x.prefer(1, 1);
            x.pass(10);
            Check.due("both broke on the tenth day", x.count(9), 2);
            x.pass(2);
            x.fine(0, 5);
            if (eggs > 15) {
                x.fine(2, eggs - 15);
            }
            Check.due("the chest", x.count(3), eggs);
            x.pass(1);
            Check.due("pump 0 by " + eggs, x.pump(0, 10), 1);
            Check.due("pump 1 by " + eggs, x.pump(1, 10), eggs >= 20 ? 1 : 0);
            Check.due("the chest by " + eggs, x.count(3), eggs >= 20 ? eggs - 20 : eggs - 10);
        }
    }

    // ---- 5. Wells.

    private static void wellsAtMost200() {
        Check.sentence("5. Wells: each has its inflow more, at most 200.");
        int[][] rows = {{0, 0, 0}, {0, 50, 50}, {149, 50, 199}, {150, 50, 200}, {151, 50, 200}, {200, 50, 200},
            {199, 1, 200}, {200, 0, 200}, {199, 0, 199}};
        for (int[] row : rows) {
            PumpRoster x = new PumpRoster();
            x.addPump(row[0], row[1]);
            x.pass(1);
            Check.due("the level " + row[0] + " with " + row[1] + " more", x.pump(0, 0), row[2]);
        }
    }

    private static void inflowAfterTheWater() {
        Check.sentence("5. Wells: each has its inflow more");
        PumpRoster x = new PumpRoster();
        x.addHouse(0, 0, 9);
        x.addPump(0, 1);
        x.enrol(0, 0);
        Check.due("nothing to draw on the first day", x.pass(1), 0);
        Check.due("the inflow of it", x.pump(0, 0), 1);
        Check.due("drawn on the second", x.pass(1), 1);
        PumpRoster full = Villages.withTurn(1, 0);
        full.pass(1);
        Check.due("a full well, drawn from and filled again", full.pump(0, 0), 200);
    }

    // ---- 6. The chest.

    private static void remainder6By7() {
        Check.sentence("6. On days with the remainder 6 by 7");
        PumpRoster x = new PumpRoster();
        for (int house = 0; house < 3; house++) {
            x.addHouse(0, 9, 9);
        }
        x.fine(0, 10);
        x.fine(1, 10);
        x.fine(2, 3);
        int chest = 23;
        for (int day = 0; day < 30; day++) {
            x.pass(1);
            if (day % 7 == 6) {
                chest -= 3;
            }
            Check.due("the chest after day " + day, x.count(3), chest);
            if (day % 7 == 6) {
                x.fine(0, 3);
                chest += 3;
            }
        }
    }

    /** A village on the day 6, of houses of which each has 70 eggs or more by its hens; the chest is empty. */
    private static PumpRoster onDay6(int houses) {
        PumpRoster x = new PumpRoster();
        for (int house = 0; house < houses; house++) {
            x.addHouse(0, 9, 9);
        }
        x.pass(6);
        return x;
    }

    private static void moreThan20Eggs() {
        Check.sentence("if the chest has more than 20 eggs");
        for (int eggs = 19; eggs <= 22; eggs++) {
            PumpRoster x = onDay6(1);
            x.fine(0, eggs);
            x.pass(1);
            Check.due("the chest of " + eggs, x.count(3), Math.min(20, eggs));
            Check.due("the eggs of the house", x.house(0, 2), 64 + 9 - Math.min(20, eggs));
        }
    }

    private static void sharedWithoutMarks() {
        Check.sentence("n are the houses without marks (there or away); each of them gets (the eggs of the chest less 20) "
                + "/ n from it");
        PumpRoster x = onDay6(4);
        x.fine(0, 50);
        x.fine(0, 50);
        Check.due("the mark of house 0", x.house(0, 3), 1);
        x.fine(1, 16);
        x.leave(2, 1);
        Check.due("the chest", x.count(3), 80);
        x.pass(1);
        Check.due("house 0, with a mark", x.house(0, 2), 9);
        Check.due("house 1", x.house(1, 2), 64 - 16 + 9 + 20);
        Check.due("house 2, away", x.house(2, 2), 64 + 20);
        Check.due("house 3", x.house(3, 2), 64 + 9 + 20);
        Check.due("the chest then", x.count(3), 20);
    }

    private static void shareIsCut() {
        Check.sentence("each of them gets (the eggs of the chest less 20) / n from it");
        for (int eggs = 20; eggs <= 31; eggs++) {
            PumpRoster x = onDay6(5);
            x.fine(0, eggs);
            x.pass(1);
            int share = (eggs - 20) / 5;
            Check.due("the share of " + eggs, x.house(4, 2), 64 + 9 + share);
            Check.due("the chest of " + eggs, x.count(3), eggs - 5 * share);
        }
    }

    private static void nobodyToShareWith() {
        Check.sentence("(none, if n is 0)");
        PumpRoster x = onDay6(2);
        x.fine(0, 50);
        x.fine(0, 50);
        x.fine(1, 50);
        x.fine(1, 50);
        x.pass(1);
        Check.due("the chest", x.count(3), 128);
        Check.due("house 0", x.house(0, 2), 9);
        Check.due("house 1", x.house(1, 2), 9);
        PumpRoster none = new PumpRoster();
        none.pass(7);
        Check.due("the chest of a village without houses", none.count(3), 0);
    }

    private static void sharedAfterMending() {
        Check.sentence("A day goes like this:");
        // The handle breaks on day 3, by 4 times 25 buckets, and is mended on day 6.
        PumpRoster x = new PumpRoster();
        x.addHouse(9, 0, 9);
        x.addHouse(9, 9, 9);
        x.addHouse(1, 0, 9);
        x.addPump(200, 50);
        x.enrol(0, 0);
        x.pass(6);
        Check.due("a day to wait", x.pump(0, 4), 1);
        x.fine(1, 25);
        Check.due("the chest", x.count(3), 30);
        x.pass(1);
        Check.due("mended", x.pump(0, 10), 1);
        Check.due("20 are left, and none of them is shared", x.count(3), 20);
    }

    // ---- 7. The end of the day.

    private static void awayForADayLess() {
        Check.sentence("7. Each house that is away is so for a day less.");
        for (int days = 0; days <= 30; days++) {
            PumpRoster x = Villages.of(1, 0);
            x.leave(0, days);
            x.pass(1);
            Check.due("away for " + days + ", then", x.house(0, 4), Math.max(0, days - 1));
            Check.due("thirst on that day", x.house(0, 7), days == 0 ? 2 : 0);
        }
        PumpRoster x = Villages.of(1, 0);
        x.leave(0, 30);
        x.pass(29);
        Check.due("the last day away", x.house(0, 4), 1);
        x.pass(1);
        Check.due("there", x.house(0, 4), 0);
        Check.due("no thirst yet", x.house(0, 7), 0);
        x.pass(1);
        Check.due("thirst from the next day on", x.house(0, 7), 2);
    }

    private static void dayIsOneGreater() {
        Check.sentence("The day is 1 greater.");
        PumpRoster x = new PumpRoster();
        x.pass(1);
        Check.due("count(0)", x.count(0), 1);
        x.pass(100);
        Check.due("count(0) then", x.count(0), 101);
    }
}
