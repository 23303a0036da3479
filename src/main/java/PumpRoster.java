/** The roster of village pumps. */
public final class PumpRoster {

    private static final int MOST_HOUSES = 10;
    private static final int MOST_PUMPS = 3;
    private static final int MOST_LODGERS = 9;
    private static final int MOST_HENS = 9;
    private static final int MOST_FORGETS = 9;
    private static final int MOST_LEVEL = 200;
    private static final int MOST_INFLOW = 50;
    private static final int MOST_DAYS_AWAY = 30;
    private static final int MOST_FINE = 50;
    private static final int MOST_DAYS = 100;
    private static final int MOST_DAYS_ADVISED = 50;
    private static final int MOST_MARKS = 3;

    private static final int LAST_HOUSE_FACT = 10;
    private static final int LAST_PUMP_FACT = 10;
    private static final int LAST_COUNT = 9;
    private static final int LAST_FORESIGHT = 3;

    private static final int NONE = -1;
    private static final int FIRST_EGGS = 10;
    private static final int KEY_FINE = 3;
    private static final int HANDLE_FINE = 5;
    private static final int WORN_OUT = 100;
    private static final int MENDING_DAYS = 3;
    private static final int MENDING_PRICE = 10;
    private static final int CHEST_RESERVE = 20;
    private static final int WEEK = 7;
    private static final int SHARING_DAY = 6;
    private static final long DIGEST_START = 577;
    private static final long DIGEST_FACTOR = 31;

    private final Village village;
    // Looking ahead plays its days here, so that no call has to make a village anew.
    private final Village trial;

    public PumpRoster() {
        village = new Village();
        trial = new Village();
    }

    // ---- houses and pumps.

    public int addHouse(int lodgers, int hens, int forgets) throws IllegalArgumentException, IllegalStateException {
        requireArgument(lodgers, 0, MOST_LODGERS);
        requireArgument(hens, 0, MOST_HENS);
        requireArgument(forgets, 1, MOST_FORGETS);
        if (village.houseCount >= MOST_HOUSES) {
            throw new IllegalStateException("no room for another house");
        }
        House added = village.houses[village.houseCount];
        added.lodgers = lodgers;
        added.hens = hens;
        added.forgets = forgets;
        village.houseCount++;
        return added.number;
    }

    public int addPump(int level, int inflow) throws IllegalArgumentException, IllegalStateException {
        requireArgument(level, 0, MOST_LEVEL);
        requireArgument(inflow, 0, MOST_INFLOW);
        if (village.pumpCount >= MOST_PUMPS) {
            throw new IllegalStateException("no room for another pump");
        }
        int number = village.pumpCount;
        Pump added = village.pumps[number];
        added.level = level;
        added.inflow = inflow;
        village.pumpCount++;
        return number;
    }

    public int lodge(int house, int lodgers) throws IndexOutOfBoundsException, IllegalArgumentException {
        requireHouse(house);
        requireArgument(lodgers, 0, MOST_LODGERS);
        House told = village.houses[house];
        int before = told.lodgers;
        told.lodgers = lodgers;
        return before;
    }

    public int prefer(int house, int pump) throws IndexOutOfBoundsException {
        requireHouse(house);
        requirePump(pump);
        House told = village.houses[house];
        int before = told.firstPump;
        told.firstPump = pump;
        return before;
    }

    public int leave(int house, int days) throws IndexOutOfBoundsException, IllegalArgumentException {
        requireHouse(house);
        requireArgument(days, 0, MOST_DAYS_AWAY);
        House told = village.houses[house];
        int before = told.daysAway;
        told.daysAway = days;
        return before;
    }

    public int fine(int house, int eggs) throws IndexOutOfBoundsException, IllegalArgumentException {
        requireHouse(house);
        requireArgument(eggs, 1, MOST_FINE);
        return village.charge(village.houses[house], eggs);
    }

    // ---- rosters.

    public int enrol(int pump, int house) throws IndexOutOfBoundsException, IllegalStateException {
        requirePump(pump);
        requireHouse(house);
        Pump joined = village.pumps[pump];
        if (joined.placeOf(house) != NONE) {
            throw new IllegalStateException("the house is on the roster");
        }
        if (village.houses[house].marks >= MOST_MARKS) {
            throw new IllegalStateException("the house has too many marks");
        }
        joined.append(house);
        return joined.rosterSize;
    }

    public int change(int pump, int a, int b) throws IndexOutOfBoundsException {
        requirePlace(pump, a);
        requirePlace(pump, b);
        Pump changed = village.pumps[pump];
        int houseAtA = changed.roster[a];
        changed.roster[a] = changed.roster[b];
        changed.roster[b] = houseAtA;
        return changed.houseAt(changed.turn);
    }

    public int roster(int pump, int index) throws IndexOutOfBoundsException {
        requirePlace(pump, index);
        return village.pumps[pump].houseAt(index);
    }

    public int ahead(int pump, int house) throws IndexOutOfBoundsException {
        requirePump(pump);
        requireHouse(house);
        Pump asked = village.pumps[pump];
        int place = asked.placeOf(house);
        if (place == NONE) {
            return NONE;
        }
        return place >= asked.turn ? place - asked.turn : place - asked.turn + asked.rosterSize;
    }

    public int house(int house, int what) throws IndexOutOfBoundsException {
        requireHouse(house);
        requireIndex(what, LAST_HOUSE_FACT);
        return village.houseFact(village.houses[house], what);
    }

    public int pump(int pump, int what) throws IndexOutOfBoundsException {
        requirePump(pump);
        requireIndex(what, LAST_PUMP_FACT);
        return village.pumps[pump].fact(what);
    }

    // ---- days.

    public int pass(int days) throws IllegalArgumentException {
        requireArgument(days, 1, MOST_DAYS);
        return village.runDays(days);
    }

    public int count(int what) throws IndexOutOfBoundsException {
        requireIndex(what, LAST_COUNT);
        return village.total(what);
    }

    // ---- looking ahead.

    public int foresee(int days, int what) throws IllegalArgumentException, IndexOutOfBoundsException {
        requireArgument(days, 1, MOST_DAYS);
        requireIndex(what, LAST_FORESIGHT);
        trial.copyFrom(village);
        trial.runDays(days);
        switch (what) {
            case 0:
                return trial.allThirst() - village.allThirst();
            case 1:
                return trial.chest;
            case 2:
                return trial.allMarks();
            default:
                return trial.brokenHandles();
        }
    }

    public int advise(int house, int days) throws IndexOutOfBoundsException, IllegalArgumentException {
        requireHouse(house);
        requireArgument(days, 1, MOST_DAYS_ADVISED);
        int best = NONE;
        int leastThirst = 0;
        for (int pump = 0; pump < village.pumpCount; pump++) {
            trial.copyFrom(village);
            trial.houses[house].firstPump = pump;
            trial.runDays(days);
            int thirst = trial.allThirst();
            if (best == NONE || thirst < leastThirst) {
                best = pump;
                leastThirst = thirst;
            }
        }
        return best;
    }

    public int unfair(int pump) throws IndexOutOfBoundsException {
        requirePump(pump);
        Pump asked = village.pumps[pump];
        if (asked.rosterSize == 0) {
            return 0;
        }
        int most = 0;
        int fewest = Integer.MAX_VALUE;
        for (int house = 0; house < village.houseCount; house++) {
            if (asked.placeOf(house) != NONE) {
                most = Math.max(most, village.houses[house].duties);
                fewest = Math.min(fewest, village.houses[house].duties);
            }
        }
        return most - fewest;
    }

    public double daily() {
        if (village.day == 0) {
            return 0;
        }
        return (double) village.allDrawn() / village.day;
    }

    public long digest() {
        long d = DIGEST_START;
        for (int what = 0; what <= LAST_COUNT; what++) {
            d = d * DIGEST_FACTOR + village.total(what);
        }
        for (int i = 0; i < village.houseCount; i++) {
            for (int what = 0; what <= LAST_HOUSE_FACT; what++) {
                d = d * DIGEST_FACTOR + village.houseFact(village.houses[i], what);
            }
        }
        for (int i = 0; i < village.pumpCount; i++) {
            d = village.pumps[i].mixInto(d);
        }
        return d;
    }

    private static void requireArgument(int value, int least, int most) {
        if (value < least || value > most) {
            throw new IllegalArgumentException("an argument is too small or too large");
        }
    }

    private static void requireIndex(int what, int last) {
        if (what < 0 || what > last) {
            throw new IndexOutOfBoundsException("nothing is told by this number");
        }
    }

    private void requireHouse(int house) {
        if (!village.isHouse(house)) {
            throw new IndexOutOfBoundsException("no such house");
        }
    }

    private void requirePump(int pump) {
        if (!village.isPump(pump)) {
            throw new IndexOutOfBoundsException("no such pump");
        }
    }

    private void requirePlace(int pump, int place) {
        requirePump(pump);
        if (place < 0 || place >= village.pumps[pump].rosterSize) {
            throw new IndexOutOfBoundsException("no such place on the roster");
        }
    }

    private static final class House {
        final int number;
        int lodgers;
        int hens;
        int forgets;
        int eggs = FIRST_EGGS;
        int marks;
        int daysAway;
        int firstPump;
        int duties;
        int thirst;
        int keysToHandOn;
        int finesTold;

        House(int number) {
            this.number = number;
        }

        void copyFrom(House other) {
            lodgers = other.lodgers;
            hens = other.hens;
            forgets = other.forgets;
            eggs = other.eggs;
            marks = other.marks;
            daysAway = other.daysAway;
            firstPump = other.firstPump;
            duties = other.duties;
            thirst = other.thirst;
            keysToHandOn = other.keysToHandOn;
            finesTold = other.finesTold;
        }

        boolean isThere() {
            return daysAway == 0;
        }

        int dailyNeed() {
            return 2 + lodgers;
        }

        boolean forgetsThisKey() {
            return forgets > 0 && keysToHandOn % forgets == 0;
        }
    }

    private static final class Pump {
        int level;
        int inflow;
        int wear;
        boolean broken;
        int daysToWait;
        int keyHolder = NONE;
        final int[] roster = new int[MOST_HOUSES];
        int rosterSize;
        int turn;
        int daysOpen;
        int drawn;
        int timesMended;
        // These two tell of the present day alone: each day sets them anew, and no copy needs them.
        boolean open;
        boolean brokeToday;

        void copyFrom(Pump other) {
            level = other.level;
            inflow = other.inflow;
            wear = other.wear;
            broken = other.broken;
            daysToWait = other.daysToWait;
            keyHolder = other.keyHolder;
            System.arraycopy(other.roster, 0, roster, 0, MOST_HOUSES);
            rosterSize = other.rosterSize;
            turn = other.turn;
            daysOpen = other.daysOpen;
            drawn = other.drawn;
            timesMended = other.timesMended;
        }

        int placeOf(int house) {
            for (int place = 0; place < rosterSize; place++) {
                if (roster[place] == house) {
                    return place;
                }
            }
            return NONE;
        }

        int houseAt(int place) {
            return place >= 0 && place < rosterSize ? roster[place] : NONE;
        }

        void append(int house) {
            if (rosterSize < MOST_HOUSES) {
                roster[rosterSize] = house;
                rosterSize++;
            }
        }

        void strikeOff(int gap) {
            if (gap < 0 || gap >= rosterSize) {
                return;
            }
            for (int place = gap + 1; place < rosterSize; place++) {
                roster[place - 1] = roster[place];
            }
            rosterSize--;
            if (turn > gap) {
                turn--;
            }
            if (turn >= rosterSize) {
                turn = 0;
            }
        }

        int placeBehind(int place) {
            return place + 1 < rosterSize ? place + 1 : 0;
        }

        void breakHandle() {
            broken = true;
            brokeToday = true;
            daysToWait = MENDING_DAYS;
        }

        void mendHandle() {
            broken = false;
            wear = 0;
            timesMended++;
        }

        int fact(int what) {
            switch (what) {
                case 0:
                    return level;
                case 1:
                    return inflow;
                case 2:
                    return wear;
                case 3:
                    return broken ? 1 : 0;
                case 4:
                    return daysToWait;
                case 5:
                    return keyHolder;
                case 6:
                    return rosterSize;
                case 7:
                    return turn;
                case 8:
                    return daysOpen;
                case 9:
                    return drawn;
                default:
                    return timesMended;
            }
        }

        long mixInto(long d) {
            long mixed = d;
            for (int what = 0; what <= LAST_PUMP_FACT; what++) {
                mixed = mixed * DIGEST_FACTOR + fact(what);
            }
            for (int place = 0; place < rosterSize; place++) {
                mixed = mixed * DIGEST_FACTOR + roster[place];
            }
            return mixed;
        }
    }

    private static final class Village {
        // All houses and pumps that there can be are made at once; the counts tell which have come.
        final House[] houses = new House[MOST_HOUSES];
        final Pump[] pumps = new Pump[MOST_PUMPS];
        int houseCount;
        int pumpCount;
        int chest;
        int day;

        Village() {
            for (int i = 0; i < MOST_HOUSES; i++) {
                houses[i] = new House(i);
            }
            for (int i = 0; i < MOST_PUMPS; i++) {
                pumps[i] = new Pump();
            }
        }

        void copyFrom(Village other) {
            houseCount = other.houseCount;
            pumpCount = other.pumpCount;
            chest = other.chest;
            day = other.day;
            for (int i = 0; i < houseCount; i++) {
                houses[i].copyFrom(other.houses[i]);
            }
            for (int i = 0; i < pumpCount; i++) {
                pumps[i].copyFrom(other.pumps[i]);
            }
        }

        boolean isHouse(int house) {
            return house >= 0 && house < houseCount;
        }

        boolean isPump(int pump) {
            return pump >= 0 && pump < pumpCount;
        }

        int charge(House payer, int eggs) {
            payer.finesTold += eggs;
            int paid = Math.min(eggs, payer.eggs);
            payer.eggs -= paid;
            chest += paid;
            if (paid < eggs && payer.marks < MOST_MARKS) {
                payer.marks++;
                if (payer.marks == MOST_MARKS) {
                    for (int i = 0; i < pumpCount; i++) {
                        pumps[i].strikeOff(pumps[i].placeOf(payer.number));
                    }
                }
            }
            return paid;
        }

        /** The seven steps of each day, in their order; answers the buckets that were drawn. */
        int runDays(int days) {
            int drawnBefore = allDrawn();
            for (int i = 0; i < days; i++) {
                layEggs();
                passKeys();
                drawWater();
                mendHandles();
                fillWells();
                shareChest();
                endDay();
            }
            return allDrawn() - drawnBefore;
        }

        private void layEggs() {
            for (int i = 0; i < houseCount; i++) {
                if (houses[i].isThere()) {
                    houses[i].eggs += houses[i].hens;
                }
            }
        }

        private void passKeys() {
            for (int i = 0; i < pumpCount; i++) {
                Pump pump = pumps[i];
                pump.open = false;
                pump.brokeToday = false;
                // A fine for the key may strike houses off this very roster, so the turn moves ahead of it.
                int duty = takeTurn(pump);
                if (isHouse(duty) && handOnKey(pump, duty)) {
                    pump.keyHolder = duty;
                    pump.open = true;
                    pump.daysOpen++;
                    houses[duty].duties++;
                }
            }
        }

        /** Moves the turn behind the house with the duty and answers this house, or that there is none. */
        private int takeTurn(Pump pump) {
            int place = pump.turn;
            for (int i = 0; i < pump.rosterSize; i++) {
                int house = pump.houseAt(place);
                place = pump.placeBehind(place);
                if (isHouse(house) && houses[house].isThere()) {
                    pump.turn = place;
                    return house;
                }
            }
            return NONE;
        }

        /** Whether the house with the duty has the key then; a holder that does not hand it on pays for it. */
        private boolean handOnKey(Pump pump, int duty) {
            if (pump.keyHolder == duty || !isHouse(pump.keyHolder)) {
                return true;
            }
            House holder = houses[pump.keyHolder];
            if (holder.isThere()) {
                holder.keysToHandOn++;
                if (!holder.forgetsThisKey()) {
                    return true;
                }
            }
            charge(holder, KEY_FINE);
            return false;
        }

        private void drawWater() {
            for (int i = 0; i < houseCount; i++) {
                if (houses[i].isThere()) {
                    drawAround(houses[i]);
                }
            }
        }

        private void drawAround(House house) {
            int need = house.dailyNeed();
            int number = house.firstPump;
            for (int i = 0; i < pumpCount; i++) {
                if (!isPump(number)) {
                    number = 0;
                }
                need -= drawFrom(pumps[number], house, need);
                number++;
            }
            house.thirst += need;
        }

        private int drawFrom(Pump pump, House house, int need) {
            if (!pump.open || pump.broken) {
                return 0;
            }
            int buckets = Math.min(need, pump.level);
            pump.level -= buckets;
            pump.drawn += buckets;
            pump.wear += buckets;
            if (pump.wear >= WORN_OUT) {
                pump.breakHandle();
                charge(house, HANDLE_FINE);
            }
            return buckets;
        }

        private void mendHandles() {
            for (int i = 0; i < pumpCount; i++) {
                if (pumps[i].broken && !pumps[i].brokeToday) {
                    workOnHandle(pumps[i]);
                }
            }
        }

        private void workOnHandle(Pump pump) {
            if (pump.daysToWait > 0) {
                pump.daysToWait--;
            }
            if (pump.daysToWait == 0 && chest >= MENDING_PRICE) {
                chest -= MENDING_PRICE;
                pump.mendHandle();
            }
        }

        private void fillWells() {
            for (int i = 0; i < pumpCount; i++) {
                pumps[i].level = Math.min(MOST_LEVEL, pumps[i].level + pumps[i].inflow);
            }
        }

        private void shareChest() {
            if (day % WEEK != SHARING_DAY || chest <= CHEST_RESERVE) {
                return;
            }
            int sharers = unmarkedHouses();
            if (sharers == 0) {
                return;
            }
            int share = (chest - CHEST_RESERVE) / sharers;
            for (int i = 0; i < houseCount; i++) {
                if (houses[i].marks == 0) {
                    houses[i].eggs += share;
                    chest -= share;
                }
            }
        }

        private void endDay() {
            for (int i = 0; i < houseCount; i++) {
                if (!houses[i].isThere()) {
                    houses[i].daysAway--;
                }
            }
            day++;
        }

        int houseFact(House house, int what) {
            switch (what) {
                case 0:
                    return house.lodgers;
                case 1:
                    return house.hens;
                case 2:
                    return house.eggs;
                case 3:
                    return house.marks;
                case 4:
                    return house.daysAway;
                case 5:
                    return house.firstPump;
                case 6:
                    return house.duties;
                case 7:
                    return house.thirst;
                case 8:
                    return house.keysToHandOn;
                case 9:
                    return house.finesTold;
                default:
                    return keysHeldBy(house.number);
            }
        }

        int total(int what) {
            switch (what) {
                case 0:
                    return day;
                case 1:
                    return houseCount;
                case 2:
                    return pumpCount;
                case 3:
                    return chest;
                case 4:
                    return allEggs();
                case 5:
                    return housesAway();
                case 6:
                    return allMarks();
                case 7:
                    return allThirst();
                case 8:
                    return allDailyNeed();
                default:
                    return brokenHandles();
            }
        }

        private int keysHeldBy(int house) {
            int keys = 0;
            for (int i = 0; i < pumpCount; i++) {
                keys += pumps[i].keyHolder == house ? 1 : 0;
            }
            return keys;
        }

        private int unmarkedHouses() {
            int unmarked = 0;
            for (int i = 0; i < houseCount; i++) {
                unmarked += houses[i].marks == 0 ? 1 : 0;
            }
            return unmarked;
        }

        private int allEggs() {
            int eggs = 0;
            for (int i = 0; i < houseCount; i++) {
                eggs += houses[i].eggs;
            }
            return eggs;
        }

        private int housesAway() {
            int away = 0;
            for (int i = 0; i < houseCount; i++) {
                away += houses[i].isThere() ? 0 : 1;
            }
            return away;
        }

        int allMarks() {
            int marks = 0;
            for (int i = 0; i < houseCount; i++) {
                marks += houses[i].marks;
            }
            return marks;
        }

        int allThirst() {
            int thirst = 0;
            for (int i = 0; i < houseCount; i++) {
                thirst += houses[i].thirst;
            }
            return thirst;
        }

        private int allDailyNeed() {
            int need = 0;
            for (int i = 0; i < houseCount; i++) {
                need += houses[i].isThere() ? houses[i].dailyNeed() : 0;
            }
            return need;
        }

        int brokenHandles() {
            int handles = 0;
            for (int i = 0; i < pumpCount; i++) {
                handles += pumps[i].broken ? 1 : 0;
            }
            return handles;
        }

        int allDrawn() {
            int drawn = 0;
            for (int i = 0; i < pumpCount; i++) {
                drawn += pumps[i].drawn;
            }
            return drawn;
        }
    }
}
