/** Promises 16 to 20. */
public final class LookingAheadTest {

    private static final int[] WILD = {Integer.MIN_VALUE, -1, Integer.MAX_VALUE};

    public static void main(String[] args) {
        promise16Foresee();
        promise17Advise();
        promise18Unfair();
        promise19Daily();
        promise20Digest();
        Check.finish("LookingAheadTest");
    }

    private static void promise16Foresee() {
        for (int days = 1; days <= 100; days += 3) {
            PumpRoster x = Villages.busy();
            long before = x.digest();
            int thirstBefore = x.count(7);
            int[] foreseen = new int[4];
            for (int what = 0; what < 4; what++) {
                foreseen[what] = x.foresee(days, what);
            }
            Check.due("digest() after foresee", x.digest(), before);
            x.pass(days);
            Check.due("foresee(" + days + ", 0)", foreseen[0], x.count(7) - thirstBefore);
            Check.due("foresee(" + days + ", 1)", foreseen[1], x.count(3));
            Check.due("foresee(" + days + ", 2)", foreseen[2], x.count(6));
            Check.due("foresee(" + days + ", 3)", foreseen[3], x.count(9));
        }
        PumpRoster x = new PumpRoster();
        x.addHouse(3, 0, 1);
        x.pass(1);
        Check.due("foresee(100, 0)", x.foresee(100, 0), 500);
        Check.dueThrow("foresee(0, 4)", x, IllegalArgumentException.class, () -> x.foresee(0, 4));
        Check.dueThrow("foresee(0, 0)", x, IllegalArgumentException.class, () -> x.foresee(0, 0));
        Check.dueThrow("foresee(101, 0)", x, IllegalArgumentException.class, () -> x.foresee(101, 0));
        Check.dueThrow("foresee(1, 4)", x, IndexOutOfBoundsException.class, () -> x.foresee(1, 4));
        for (int w : WILD) {
            Check.dueThrow("foresee(" + w + ", 0)", x, IllegalArgumentException.class, () -> x.foresee(w, 0));
            Check.dueThrow("foresee(1, " + w + ")", x, IndexOutOfBoundsException.class, () -> x.foresee(1, w));
        }
    }

    private static void promise17Advise() {
        PumpRoster none = new PumpRoster();
        none.addHouse(0, 0, 1);
        Check.due("advise(0, 1) without pumps", none.advise(0, 1), -1);
        Check.dueThrow("advise(0, 0) without pumps", none, IllegalArgumentException.class, () -> none.advise(0, 0));

        PumpRoster x = new PumpRoster();
        x.addHouse(8, 0, 9);
        for (int pump = 0; pump < 3; pump++) {
            x.addPump(30 * pump, 10);
            x.enrol(pump, 0);
        }
        x.prefer(0, 2);
        Check.due("all the same: the smallest number, also when it prefers another", x.advise(0, 1), 0);
        adviseAgainstTrying(x);
        adviseAgainstTrying(Villages.busy());
        Check.dueThrow("advise(1, 1)", x, IndexOutOfBoundsException.class, () -> x.advise(1, 1));
        Check.dueThrow("advise(1, 0)", x, IndexOutOfBoundsException.class, () -> x.advise(1, 0));
        Check.dueThrow("advise(0, 0)", x, IllegalArgumentException.class, () -> x.advise(0, 0));
        Check.dueThrow("advise(0, 51)", x, IllegalArgumentException.class, () -> x.advise(0, 51));
        for (int w : WILD) {
            Check.dueThrow("advise(" + w + ", 1)", x, IndexOutOfBoundsException.class, () -> x.advise(w, 1));
            Check.dueThrow("advise(0, " + w + ")", x, IllegalArgumentException.class, () -> x.advise(0, w));
        }
        adviseAnother();
    }

    private static void adviseAgainstTrying(PumpRoster x) {
        for (int house = 0; house < x.count(1); house++) {
            int preferred = x.house(house, 5);
            for (int days = 1; days <= 50; days += 7) {
                int best = -1;
                int least = 0;
                for (int pump = 0; pump < x.count(2); pump++) {
                    x.prefer(house, pump);
                    int thirst = x.foresee(days, 0);
                    if (best == -1 || thirst < least) {
                        best = pump;
                        least = thirst;
                    }
                }
                x.prefer(house, preferred);
                long before = x.digest();
                Check.due("advise(" + house + ", " + days + ")", x.advise(house, days), best);
                Check.due("digest() after advise", x.digest(), before);
            }
        }
    }

    /** House 0 had best not break the handle of pump 0 for two buckets, when house 1 can get eleven by that. */
    private static void adviseAnother() {
        PumpRoster x = new PumpRoster();
        x.addHouse(0, 0, 9);
        x.addHouse(9, 0, 9);
        x.addPump(200, 50);
        x.addPump(2, 0);
        x.addPump(2, 0);
        for (int pump = 0; pump < 3; pump++) {
            x.enrol(pump, 1);
        }
        x.leave(0, 9);
        x.pass(9);
        Check.due("wear 99", x.pump(0, 2), 99);
        Check.due("thirst by the pump 0", x.foresee(1, 0), 11 - 4);
        Check.due("advise(0, 1): of 1 and 2 the smallest", x.advise(0, 1), 1);
        Check.due("nothing is changed", x.house(0, 5), 0);
        Check.due("prefer(0, 1)", x.prefer(0, 1), 0);
        Check.due("thirst by the pump 1", x.foresee(1, 0), 0);
        x.prefer(0, 2);
        Check.due("advise(0, 1) from the pump 2", x.advise(0, 1), 1);
    }

    private static void promise18Unfair() {
        PumpRoster x = new PumpRoster();
        for (int i = 0; i < 4; i++) {
            x.addHouse(0, 0, 9);
        }
        x.addPump(200, 50);
        x.addPump(200, 50);
        x.addPump(200, 50);
        Check.due("unfair(0), empty", x.unfair(0), 0);
        x.enrol(0, 0);
        x.enrol(0, 1);
        x.enrol(1, 1);
        x.enrol(1, 2);
        x.enrol(1, 3);
        Check.due("unfair(1) without duties", x.unfair(1), 0);
        x.pass(4);
        // Pump 0: 0, 1, 0, 1; pump 1: 1, 2, 3, 1.
        Check.due("unfair(0)", x.unfair(0), 4 - 2);
        Check.due("unfair(1) counts duties of all pumps", x.unfair(1), 4 - 1);
        x.enrol(2, 1);
        Check.due("unfair(2) of one house", x.unfair(2), 0);
        for (int w : new int[] {Integer.MIN_VALUE, -1, 3, Integer.MAX_VALUE}) {
            Check.dueThrow("unfair(" + w + ")", x, IndexOutOfBoundsException.class, () -> x.unfair(w));
        }
    }

    private static void promise19Daily() {
        PumpRoster x = new PumpRoster();
        Check.dueDouble("daily() on the day 0", x.daily(), 0);
        x.addHouse(0, 0, 9);
        x.addPump(3, 0);
        x.addPump(4, 0);
        x.enrol(0, 0);
        x.enrol(1, 0);
        x.pass(1);
        Check.dueDouble("daily() after a day", x.daily(), 2);
        x.pass(1);
        x.pass(1);
        x.pass(4);
        Check.dueDouble("daily() after 7 days", x.daily(), 1);
        x.pass(1);
        Check.dueDouble("daily() after 8 days", x.daily(), 0.875);
        x.pass(1);
        Check.dueDouble("daily() after 9 days", x.daily(), 7.0 / 9);
    }

    private static void promise20Digest() {
        PumpRoster x = new PumpRoster();
        Check.due("digest() of a new object", x.digest(), 577L * 31 * 31 * 31 * 31 * 31 * 31 * 31 * 31 * 31 * 31);
        digestByHand(Villages.busy());
        for (int days = 1; days <= 60; days += 3) {
            digestByHand(fullVillage(days));
        }
    }

    private static PumpRoster fullVillage(int days) {
        PumpRoster full = new PumpRoster();
        for (int i = 0; i < 10; i++) {
            full.addHouse(i, i, 9);
        }
        for (int i = 0; i < 3; i++) {
            full.addPump(50 * i, 20);
            for (int house = i; house < 10; house++) {
                full.enrol(i, house);
            }
        }
        full.pass(days);
        return full;
    }

    private static void digestByHand(PumpRoster x) {
        long d = 577;
        for (int what = 0; what <= 9; what++) {
            d = d * 31 + x.count(what);
        }
        for (int house = 0; house < x.count(1); house++) {
            for (int what = 0; what <= 10; what++) {
                d = d * 31 + x.house(house, what);
            }
        }
        for (int pump = 0; pump < x.count(2); pump++) {
            for (int what = 0; what <= 10; what++) {
                d = d * 31 + x.pump(pump, what);
            }
            for (int place = 0; place < x.pump(pump, 6); place++) {
                d = d * 31 + x.roster(pump, place);
            }
        }
        Check.due("digest()", x.digest(), d);
    }
}
