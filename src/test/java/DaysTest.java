/** Promises 14 and 15, and the seven steps of a day. */
public final class DaysTest {

    private static final int[] WILD = {Integer.MIN_VALUE, -1, Integer.MAX_VALUE};

    public static void main(String[] args) {
        promise14Pass();
        promise15Count();
        step1Eggs();
        step2KeyOfAHouseWithoutDuty();
        step2NobodyThere();
        step2ThirdMarkByAKey();
        step3RoundThePumps();
        step3TwoHandlesInOneDraw();
        step4MendingInOrder();
        step5Wells();
        step6Sharing();
        step6NobodyWithoutMarks();
        step6OnlyAboveTwenty();
        step7Away();
        Check.finish("DaysTest");
    }

    private static void promise14Pass() {
        PumpRoster x = new PumpRoster();
        x.addHouse(1, 0, 9);
        x.addHouse(2, 0, 9);
        x.addPump(20, 1);
        x.enrol(0, 0);
        Check.due("pass(1)", x.pass(1), 7);
        Check.due("pass(2)", x.pass(2), 14);
        Check.due("pass(3), nearly dry", x.pass(3), 4);
        // One bucket a day, until the handle breaks at 100 in all; the 5 eggs in the chest do not mend it.
        Check.due("pass(100)", x.pass(100), 75);
        Check.due("the day", x.count(0), 106);
        Check.dueThrow("pass(0)", x, IllegalArgumentException.class, () -> x.pass(0));
        Check.dueThrow("pass(101)", x, IllegalArgumentException.class, () -> x.pass(101));
        for (int w : WILD) {
            Check.dueThrow("pass(" + w + ")", x, IllegalArgumentException.class, () -> x.pass(w));
        }
        PumpRoster empty = new PumpRoster();
        Check.due("pass(100) of an empty village", empty.pass(100), 0);
        Check.due("the day of an empty village", empty.count(0), 100);
    }

    private static void promise15Count() {
        PumpRoster x = new PumpRoster();
        x.addHouse(8, 1, 9);
        x.addHouse(4, 2, 9);
        x.addHouse(9, 3, 9);
        x.addPump(200, 50);
        x.addPump(0, 0);
        x.enrol(0, 0);
        x.leave(2, 30);
        x.fine(1, 15);
        x.pass(7);
        // 16 buckets a day: the handle breaks in the draw of house 0 on day 6; house 1 gets none then.
        int[] due = {7, 3, 2, 15, 0, 1, 1, 6, 16, 1};
        due[4] = (10 + 7 - 5) + (0 + 14) + 10;
        for (int what = 0; what <= 9; what++) {
            Check.due("count(" + what + ")", x.count(what), due[what]);
        }
        for (int w : new int[] {Integer.MIN_VALUE, -1, 10, Integer.MAX_VALUE}) {
            Check.dueThrow("count(" + w + ")", x, IndexOutOfBoundsException.class, () -> x.count(w));
        }
    }

    private static void step1Eggs() {
        PumpRoster x = new PumpRoster();
        x.addHouse(0, 9, 1);
        x.addHouse(0, 0, 1);
        x.addHouse(0, 4, 1);
        x.leave(2, 2);
        x.pass(3);
        Check.due("nine hens", x.house(0, 2), 37);
        Check.due("no hens", x.house(1, 2), 10);
        Check.due("four hens, there on one day", x.house(2, 2), 14);
    }

    private static void step2KeyOfAHouseWithoutDuty() {
        PumpRoster x = new PumpRoster();
        x.addHouse(0, 0, 3);
        x.addHouse(0, 0, 9);
        x.addPump(200, 50);
        x.enrol(0, 0);
        x.enrol(0, 1);
        x.pass(1);
        x.leave(0, 3);
        x.pass(2);
        Check.due("the key is away", x.pump(0, 5), 0);
        Check.due("closed for two days", x.pump(0, 8), 1);
        Check.due("two fines", x.house(0, 9), 6);
        Check.due("no key counted", x.house(0, 8), 0);
        Check.due("the duty does not count", x.house(1, 6), 0);
        Check.due("the turn", x.pump(0, 7), 0);
        x.leave(0, 0);
        x.pass(1);
        Check.due("its own key", x.house(0, 8), 0);
        Check.due("open", x.pump(0, 8), 2);
        x.pass(1);
        Check.due("handed on", x.pump(0, 5), 1);
        Check.due("the first key", x.house(0, 8), 1);
    }

    private static void step2NobodyThere() {
        PumpRoster x = new PumpRoster();
        x.addHouse(0, 0, 9);
        x.addHouse(0, 0, 9);
        x.addHouse(0, 0, 9);
        x.addPump(200, 0);
        x.enrol(0, 0);
        x.enrol(0, 1);
        x.pass(1);
        x.leave(0, 1);
        x.leave(1, 1);
        Check.due("none of the roster there", x.pass(1), 0);
        Check.due("the turn stays", x.pump(0, 7), 1);
        Check.due("closed", x.pump(0, 8), 1);
        Check.due("no fine", x.count(3), 0);
        x.leave(1, 1);
        x.pass(1);
        Check.due("the turn goes round past the one that is away", x.pump(0, 7), 1);
        Check.due("a second duty", x.house(0, 6), 2);
    }

    private static void step2ThirdMarkByAKey() {
        PumpRoster x = new PumpRoster();
        for (int i = 0; i < 3; i++) {
            x.addHouse(0, 0, 1);
        }
        x.addPump(200, 0);
        x.addPump(200, 0);
        for (int i = 0; i < 3; i++) {
            x.enrol(0, i);
        }
        x.enrol(1, 0);
        x.fine(0, 50);
        x.fine(0, 50);
        x.pass(1);
        Check.due("house 0 has both keys", x.house(0, 10), 2);
        x.pass(1);
        // The turn went to place 2 before house 0 forgot its key and left the rosters.
        Check.due("house 0 has left", x.ahead(0, 0), -1);
        Check.due("the turn goes with its house", x.pump(0, 7), 1);
        Check.due("which is house 2", x.roster(0, 1), 2);
        Check.due("pump 1, with an empty roster, is closed", x.pump(1, 8), 1);
        Check.due("house 0 keeps both keys", x.house(0, 10), 2);
        x.pass(1);
        Check.due("it is told a fine again", x.house(0, 9), 106);
        Check.due("3 marks stay", x.house(0, 3), 3);
    }

    private static void step3RoundThePumps() {
        PumpRoster x = new PumpRoster();
        x.addHouse(9, 0, 9);
        x.addHouse(9, 0, 9);
        x.addPump(5, 0);
        x.addPump(4, 0);
        x.addPump(3, 0);
        x.enrol(0, 0);
        x.enrol(1, 0);
        x.enrol(2, 0);
        x.prefer(0, 2);
        Check.due("pass(1)", x.pass(1), 12);
        Check.due("drawn from 2", x.pump(2, 9), 3);
        Check.due("drawn from 0", x.pump(0, 9), 5);
        Check.due("drawn from 1", x.pump(1, 9), 4);
        Check.due("wear of 1", x.pump(1, 2), 4);
        Check.due("thirst of 0", x.house(0, 7), 0);
        Check.due("thirst of 1", x.house(1, 7), 10);
        PumpRoster closed = new PumpRoster();
        closed.addHouse(9, 0, 9);
        closed.addPump(200, 0);
        Check.due("a pump without a roster is closed", closed.pass(2), 0);
        Check.due("thirst", closed.house(0, 7), 22);
    }

    private static void step3TwoHandlesInOneDraw() {
        PumpRoster x = new PumpRoster();
        x.addHouse(9, 0, 9);
        x.addPump(200, 11);
        x.addPump(200, 11);
        x.enrol(0, 0);
        x.enrol(1, 0);
        x.pass(9);
        Check.due("wear 99", x.pump(0, 2), 99);
        x.prefer(0, 1);
        x.pass(9);
        Check.due("wear 99 of the other", x.pump(1, 2), 99);
        x.prefer(0, 0);
        x.pass(1);
        Check.due("wear 110", x.pump(0, 2), 110);
        Check.due("broken", x.pump(0, 3), 1);
        Check.due("the other is whole", x.pump(1, 3), 0);
        Check.due("a fine of 5", x.house(0, 9), 5);
        x.pass(1);
        Check.due("the other breaks too", x.count(9), 2);
        Check.due("all its eggs", x.house(0, 2), 0);
        Check.due("no mark for what is paid in full", x.house(0, 3), 0);
        Check.due("both are open and broken", x.pass(1), 0);
        Check.due("open all the days", x.pump(0, 8), 21);
    }

    private static void step4MendingInOrder() {
        PumpRoster x = new PumpRoster();
        x.addHouse(9, 0, 9);
        x.addHouse(9, 0, 9);
        x.addPump(200, 50);
        x.addPump(200, 50);
        x.enrol(0, 0);
        x.enrol(1, 0);
        x.prefer(1, 1);
        x.pass(10);
        Check.due("both broken", x.count(9), 2);
        Check.due("the chest", x.count(3), 10);
        x.pass(2);
        Check.due("both wait a day", x.pump(0, 4) + x.pump(1, 4), 2);
        x.pass(1);
        Check.due("the first is mended", x.pump(0, 10), 1);
        Check.due("for the second the eggs are gone", x.pump(1, 3), 1);
        Check.due("which does not wait any more", x.pump(1, 4), 0);
        Check.due("the chest is empty", x.count(3), 0);
        x.pass(1);
        x.fine(0, 5);
        x.fine(1, 5);
        x.pass(1);
        Check.due("now the second", x.pump(1, 10), 1);
        Check.due("its wear", x.pump(1, 2), 0);
        Check.due("its water again", x.pass(1), 22);
    }

    private static void step5Wells() {
        PumpRoster x = new PumpRoster();
        x.addPump(150, 49);
        x.addPump(0, 0);
        x.pass(1);
        Check.due("199", x.pump(0, 0), 199);
        x.pass(1);
        Check.due("200 at most", x.pump(0, 0), 200);
        Check.due("no inflow", x.pump(1, 0), 0);
    }

    private static void step6Sharing() {
        PumpRoster x = new PumpRoster();
        for (int i = 0; i < 4; i++) {
            x.addHouse(0, 9, 9);
        }
        x.pass(6);
        x.fine(0, 41);
        x.fine(3, 50);
        x.fine(3, 50);
        x.leave(1, 5);
        Check.due("the chest", x.count(3), 105);
        x.pass(1);
        // (105 - 20) / 3 is 28: a house that is away has its share, one with a mark has none.
        Check.due("the chest then", x.count(3), 21);
        Check.due("house 0", x.house(0, 2), 64 - 41 + 9 + 28);
        Check.due("house 1, away", x.house(1, 2), 64 + 28);
        Check.due("house 2", x.house(2, 2), 64 + 9 + 28);
        Check.due("house 3, with a mark", x.house(3, 2), 9);
        x.fine(2, 50);
        x.pass(6);
        Check.due("no sharing ahead of day 13", x.count(3), 71);
        x.pass(1);
        Check.due("on day 13", x.count(3), 71 - 51);
    }

    private static void step6NobodyWithoutMarks() {
        PumpRoster x = new PumpRoster();
        x.addHouse(0, 9, 9);
        x.pass(1);
        x.fine(0, 50);
        x.pass(4);
        x.fine(0, 36);
        x.pass(2);
        Check.due("a chest for nobody", x.count(3), 55);
    }

    private static void step6OnlyAboveTwenty() {
        PumpRoster x = new PumpRoster();
        x.addHouse(0, 4, 9);
        x.pass(6);
        x.fine(0, 20);
        x.pass(1);
        Check.due("20 stay", x.count(3), 20);
        x.pass(6);
        x.fine(0, 1);
        x.pass(1);
        Check.due("of 21 one goes", x.count(3), 20);
    }

    private static void step7Away() {
        PumpRoster x = new PumpRoster();
        x.addHouse(0, 0, 9);
        x.leave(0, 2);
        x.pass(1);
        Check.due("one day yet", x.house(0, 4), 1);
        Check.due("still away", x.count(5), 1);
        x.pass(1);
        Check.due("there", x.house(0, 4), 0);
        Check.due("none away", x.count(5), 0);
        x.pass(1);
        Check.due("there yet", x.house(0, 4), 0);
        Check.due("the day", x.count(0), 3);
    }
}
