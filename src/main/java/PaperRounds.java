/**
 * Newspaper rounds: a tree of streets, houses with dogs and pauses, carriers who go round in trips,
 * days that go by, forecasts, accounts, and orders as texts.
 *
 * <p>What each call does is told by the document, promise by promise. No call throws; errors are
 * negative answers.
 */
public final class PaperRounds {
    public static final int INVALID_ARGUMENT = -1;
    public static final int NOT_POSSIBLE = -2;
    public static final int LIMIT_REACHED = -3;
    public static final int NOT_FOUND = -4;

    private static final int MOST_CORNERS = 20;
    private static final int MOST_HOUSES = 24;
    private static final int MOST_PAUSES = 30;
    private static final int MOST_CARRIERS = 3;
    private static final int MOST_BISCUITS = 500;
    private static final int MOST_STATES = 4;
    private static final int MOST_SIGNS = 60;
    private static final int LAST_DAY = 999;
    private static final int LAST_PRESENT_DAY = 1000;

    private static final int NONE = -1;
    private static final int DEPOT = 0;

    private static final int ALL = 0;
    private static final int DELIVERED = 1;
    private static final int PAUSED = 2;
    private static final int BY_DOG = 3;
    private static final int TOO_HEAVY = 4;
    private static final int LOST = 5;
    private static final int ACCOUNTS = 6;

    private static final int BAD_FORM = 1;
    private static final int BAD_CALL = 2;

    private final Town town = new Town();
    private final History history = new History();
    private final Walk walk = new Walk();
    private final Text text = new Text();
    private final Trial trial = new Trial();

    public PaperRounds() {
    }

    // ---- streets, houses, carriers

    public int corner(int ahead, int length, int height, int stairs) {
        history.prepare(town);
        return settled(town.addCorner(ahead, length, height, stairs));
    }

    public int house(int corner, int papers, int tip) {
        history.prepare(town);
        return settled(town.addHouse(corner, papers, tip));
    }

    public int dog(int house, int period, int phase) {
        history.prepare(town);
        return settled(town.changeDog(house, period, phase));
    }

    public int pause(int house, int first, int last) {
        history.prepare(town);
        return settled(town.addPause(house, first, last));
    }

    public int carrier(int cart, int limit) {
        history.prepare(town);
        return settled(town.addCarrier(cart, limit));
    }

    public int give(int house, int carrier) {
        history.prepare(town);
        return settled(town.handOver(house, carrier));
    }

    public int giveNone(int house) {
        history.prepare(town);
        return settled(town.takeBack(house));
    }

    public int biscuits(int carrier, int many) {
        history.prepare(town);
        return settled(town.addBiscuits(carrier, many));
    }

    public int set(int what, int value) {
        history.prepare(town);
        return settled(town.changeSetting(what, value));
    }

    // ---- days

    public int days(int days) {
        history.prepare(town);
        return settled(town.letDaysGo(days, walk));
    }

    public int cornerOf(int corner, int what) {
        if (!town.streets.has(corner) || !within(what, 0, 6)) {
            return INVALID_ARGUMENT;
        }
        if (corner == DEPOT && (what == 0 || what == 1 || what == 3)) {
            return NOT_FOUND;
        }
        Streets streets = town.streets;
        switch (what) {
            case 0: return streets.ahead[corner];
            case 1: return streets.length[corner];
            case 2: return streets.height[corner];
            case 3: return streets.stairs[corner];
            case 4: return streets.distance[corner];
            case 5: return town.housesFrom(corner);
            default: return streets.cartsCome[corner];
        }
    }

    public int houseOf(int house, int what) {
        Houses houses = town.houses;
        if (!houses.has(house) || !within(what, 0, 11)) {
            return INVALID_ARGUMENT;
        }
        switch (what) {
            case 0: return houses.corner[house];
            case 1: return houses.papers[house];
            case 2: return houses.tip[house];
            case 3: return houses.carrier[house] == NONE ? NOT_FOUND : houses.carrier[house];
            case 4: return houses.period[house] == 0 ? NOT_FOUND : houses.period[house];
            case 5: return town.pauses.cover(house, town.day) ? 1 : 0;
            case 6: return houses.delivered[house];
            case 7: return houses.paused[house];
            case 8: return houses.returned[house];
            case 9: return houses.lost[house];
            case 10: return houses.complaints[house];
            default: return houses.freshComplaints[house];
        }
    }

    public int shareBits(int house) {
        if (!town.houses.has(house)) {
            return INVALID_ARGUMENT;
        }
        if (town.houses.papersDue(house) == 0) {
            return NOT_FOUND;
        }
        return bitsOf(town.houses.share(house));
    }

    public int meanBits() {
        double sum = 0.0;
        int many = 0;
        for (int house = 0; house < town.houses.many; house++) {
            if (town.houses.papersDue(house) > 0) {
                sum = sum + (double) town.houses.share(house);
                many++;
            }
        }
        if (many == 0) {
            return NOT_FOUND;
        }
        return bitsOf((float) (sum / (double) many));
    }

    public int carrierOf(int carrier, int what) {
        Carriers carriers = town.carriers;
        if (!carriers.has(carrier) || !within(what, 0, 7)) {
            return INVALID_ARGUMENT;
        }
        switch (what) {
            case 0: return carriers.cart[carrier];
            case 1: return carriers.limit[carrier];
            case 2: return carriers.biscuits[carrier];
            case 3: return town.houses.manyOf(carrier);
            case 4: return carriers.trips[carrier];
            case 5: return carriers.effort[carrier];
            case 6: return carriers.tips[carrier];
            default: return carriers.delivered[carrier];
        }
    }

    public int pauseOf(int pause, int what) {
        Pauses pauses = town.pauses;
        if (!within(pause, 0, pauses.many - 1) || !within(what, 0, 2)) {
            return INVALID_ARGUMENT;
        }
        switch (what) {
            case 0: return pauses.house[pause];
            case 1: return pauses.first[pause];
            default: return pauses.last[pause];
        }
    }

    public int roundAt(int carrier, int index) {
        if (!town.carriers.has(carrier) || index < 0) {
            return INVALID_ARGUMENT;
        }
        Houses houses = town.houses;
        int ahead = 0;
        for (int i = 0; i < houses.many; i++) {
            int house = houses.order[i];
            if (houses.carrier[house] == carrier) {
                if (ahead == index) {
                    return house;
                }
                ahead++;
            }
        }
        return NOT_FOUND;
    }

    // ---- what would be, which changes nothing

    public int round(int carrier, int day, int what) {
        if (!town.carriers.has(carrier) || !within(day, town.day, LAST_DAY) || !within(what, 0, 3)) {
            return INVALID_ARGUMENT;
        }
        walk.go(town, carrier, day, NONE);
        switch (what) {
            case 0: return walk.trips;
            case 1: return walk.effort;
            case 2: return walk.papers;
            default: return walk.dogs;
        }
    }

    public int lightest(int house, int day) {
        if (!town.houses.has(house) || !within(day, town.day, LAST_DAY)) {
            return INVALID_ARGUMENT;
        }
        int best = NOT_FOUND;
        int least = 0;
        for (int carrier = 0; carrier < town.carriers.many; carrier++) {
            if (carrier != town.houses.carrier[house] && town.canReach(carrier, house)) {
                int more = walk.moreEffort(town, carrier, day, house);
                if (best == NOT_FOUND || more < least) {
                    best = carrier;
                    least = more;
                }
            }
        }
        return best;
    }

    public int nextDog(int house) {
        if (!town.houses.has(house)) {
            return INVALID_ARGUMENT;
        }
        for (int day = town.day; day <= LAST_DAY; day++) {
            if (town.houses.dogIsOut(house, day) && !town.pauses.cover(house, day)) {
                return day;
            }
        }
        return NOT_FOUND;
    }

    // ---- accounts

    public int account(int what) {
        if (!within(what, 0, ACCOUNTS - 1)) {
            return INVALID_ARGUMENT;
        }
        return town.accounts[what];
    }

    public int count(int what) {
        switch (what) {
            case 0: return town.streets.many;
            case 1: return town.houses.many;
            case 2: return town.carriers.many;
            case 3: return town.pauses.many;
            case 4: return town.day;
            case 5: return town.houses.manyOf(NONE);
            case 6: return town.housesPaused();
            case 7: return town.houses.allComplaints();
            case 8: return town.carriers.allTips();
            case 9: return history.kept;
            case 10: return text.length;
            case 20: return town.weight;
            case 21: return town.sundayWeight;
            default: return INVALID_ARGUMENT;
        }
    }

    public int undo() {
        if (history.kept == 0) {
            return NOT_POSSIBLE;
        }
        history.restoreInto(town);
        return history.kept;
    }

    // ---- texts

    public int type(int character) {
        if (!within(character, 32, 126)) {
            return INVALID_ARGUMENT;
        }
        return text.append((char) character);
    }

    public int clearText() {
        int length = text.length;
        text.length = 0;
        return length;
    }

    public int fault(int what) {
        if (!within(what, 0, 2)) {
            return INVALID_ARGUMENT;
        }
        trial.run(town, text, walk);
        if (trial.reason == 0 || what == 2 && trial.reason == BAD_FORM) {
            return NOT_FOUND;
        }
        switch (what) {
            case 0: return trial.position;
            case 1: return trial.reason;
            default: return trial.cause;
        }
    }

    public int play() {
        trial.run(town, text, walk);
        if (trial.reason != 0) {
            return NOT_POSSIBLE;
        }
        history.prepare(town);
        town.copyFrom(trial.town);
        return settled(trial.orders);
    }

    // A state is recorded ahead of every change, but stays in the history only if no error came.
    private int settled(int answer) {
        if (answer >= 0) {
            history.keepPrepared();
        }
        return answer;
    }

    private static boolean within(int value, int low, int high) {
        return value >= low && value <= high;
    }

    // The bits of a float from 0 to 1, made by hand because the language has no call for them.
    // Shares are far from the subnormal floats, so that the exponent never runs out.
    private static int bitsOf(float value) {
        if (!(value > 0.0f)) {
            return 0;
        }
        float scaled = value;
        int exponent = 127;
        while (scaled < 1.0f && exponent > 1) {
            scaled = scaled * 2.0f;
            exponent--;
        }
        int mantissa = (int) (scaled * 8388608.0f) - 8388608;
        return (exponent << 23) + mantissa;
    }

    private static void copy(int[] from, int[] to, int many) {
        System.arraycopy(from, 0, to, 0, many);
    }

    /** The tree of the corners; what depends on the way from the depot is kept beside each. */
    private static final class Streets {
        int many = 1;
        final int[] ahead = new int[MOST_CORNERS];
        final int[] length = new int[MOST_CORNERS];
        final int[] height = new int[MOST_CORNERS];
        final int[] stairs = new int[MOST_CORNERS];
        final int[] depth = new int[MOST_CORNERS];
        final int[] distance = new int[MOST_CORNERS];
        final int[] cartsCome = new int[MOST_CORNERS];
        // The corners in the order of a round.
        final int[] order = new int[MOST_CORNERS];

        Streets() {
            ahead[DEPOT] = NONE;
            cartsCome[DEPOT] = 1;
        }

        void copyFrom(Streets other) {
            many = other.many;
            copy(other.ahead, ahead, many);
            copy(other.length, length, many);
            copy(other.height, height, many);
            copy(other.stairs, stairs, many);
            copy(other.depth, depth, many);
            copy(other.distance, distance, many);
            copy(other.cartsCome, cartsCome, many);
            copy(other.order, order, many);
        }

        boolean has(int corner) {
            return within(corner, 0, many - 1);
        }

        int add(int from, int metres, int top, int steps) {
            int corner = many;
            ahead[corner] = from;
            length[corner] = metres;
            height[corner] = top;
            stairs[corner] = steps;
            depth[corner] = depth[from] + 1;
            distance[corner] = distance[from] + metres;
            cartsCome[corner] = steps == 1 ? 0 : cartsCome[from];
            putInOrder(corner);
            many++;
            return corner;
        }

        // A new corner has the highest number, so it comes after all that are beyond the one ahead of it.
        private void putInOrder(int corner) {
            int from = ahead[corner];
            int place = 0;
            while (place < many && order[place] != from) {
                place++;
            }
            place++;
            while (place < many && depth[order[place]] > depth[from]) {
                place++;
            }
            for (int i = many; i > place; i--) {
                order[i] = order[i - 1];
            }
            if (place <= many) {
                order[place] = corner;
            }
        }

        // A corner ahead always has a lower number, so going up the way never misses the one looked for.
        boolean isAtOrBeyond(int corner, int from) {
            int at = corner;
            for (int steps = 0; steps < MOST_CORNERS && at > from; steps++) {
                at = ahead[at];
            }
            return at == from;
        }

        int effortOfStreet(int corner, int load, int cart) {
            int ease = cart == 1 ? 20 : 10;
            int rise = height[corner] - height[ahead[corner]];
            int slope = rise > 0 ? rise * (ease + load) / ease : -rise;
            return 2 * length[corner] + slope;
        }
    }

    /** The houses with what came to them so far. */
    private static final class Houses {
        int many = 0;
        final int[] corner = new int[MOST_HOUSES];
        final int[] papers = new int[MOST_HOUSES];
        final int[] tip = new int[MOST_HOUSES];
        final int[] carrier = new int[MOST_HOUSES];
        final int[] period = new int[MOST_HOUSES];
        final int[] phase = new int[MOST_HOUSES];
        final int[] delivered = new int[MOST_HOUSES];
        final int[] paused = new int[MOST_HOUSES];
        final int[] returned = new int[MOST_HOUSES];
        final int[] lost = new int[MOST_HOUSES];
        final int[] complaints = new int[MOST_HOUSES];
        // These two count since the end of the last Sunday.
        final int[] freshComplaints = new int[MOST_HOUSES];
        final int[] freshDelivered = new int[MOST_HOUSES];
        // The houses in the order of a round, whoever has them.
        final int[] order = new int[MOST_HOUSES];

        void copyFrom(Houses other) {
            many = other.many;
            copy(other.corner, corner, many);
            copy(other.papers, papers, many);
            copy(other.tip, tip, many);
            copy(other.carrier, carrier, many);
            copy(other.period, period, many);
            copy(other.phase, phase, many);
            copy(other.delivered, delivered, many);
            copy(other.paused, paused, many);
            copy(other.returned, returned, many);
            copy(other.lost, lost, many);
            copy(other.complaints, complaints, many);
            copy(other.freshComplaints, freshComplaints, many);
            copy(other.freshDelivered, freshDelivered, many);
            copy(other.order, order, many);
        }

        boolean has(int house) {
            return within(house, 0, many - 1);
        }

        // A house that an undone change added may have left its numbers here, so all are written anew.
        int add(Streets streets, int place, int copies, int money) {
            int house = many;
            corner[house] = place;
            papers[house] = copies;
            tip[house] = money;
            carrier[house] = NONE;
            period[house] = 0;
            phase[house] = 0;
            delivered[house] = 0;
            paused[house] = 0;
            returned[house] = 0;
            lost[house] = 0;
            complaints[house] = 0;
            freshComplaints[house] = 0;
            freshDelivered[house] = 0;
            many++;
            makeOrder(streets);
            return house;
        }

        private void makeOrder(Streets streets) {
            int place = 0;
            for (int i = 0; i < streets.many; i++) {
                for (int house = 0; house < many; house++) {
                    if (corner[house] == streets.order[i] && place < many) {
                        order[place] = house;
                        place++;
                    }
                }
            }
        }

        int manyOf(int who) {
            int found = 0;
            for (int house = 0; house < many; house++) {
                if (carrier[house] == who) {
                    found++;
                }
            }
            return found;
        }

        boolean dogIsOut(int house, int day) {
            int days = period[house];
            return days > 0 && day % days == phase[house] % days;
        }

        void complain(int house) {
            complaints[house]++;
            freshComplaints[house]++;
        }

        int allComplaints() {
            int sum = 0;
            for (int house = 0; house < many; house++) {
                sum += complaints[house];
            }
            return sum;
        }

        int papersDue(int house) {
            return delivered[house] + returned[house] + lost[house];
        }

        float share(int house) {
            int due = papersDue(house);
            return due > 0 ? (float) delivered[house] / (float) due : 0.0f;
        }

        int tipNow(int house) {
            if (freshDelivered[house] == 0 || freshComplaints[house] > 1) {
                return 0;
            }
            return freshComplaints[house] == 0 ? tip[house] : tip[house] / 2;
        }

        void beginWeek() {
            for (int house = 0; house < many; house++) {
                freshComplaints[house] = 0;
                freshDelivered[house] = 0;
            }
        }
    }

    /** The pauses of all subscriptions. */
    private static final class Pauses {
        int many = 0;
        final int[] house = new int[MOST_PAUSES];
        final int[] first = new int[MOST_PAUSES];
        final int[] last = new int[MOST_PAUSES];

        void copyFrom(Pauses other) {
            many = other.many;
            copy(other.house, house, many);
            copy(other.first, first, many);
            copy(other.last, last, many);
        }

        int add(int whose, int from, int to) {
            int pause = many;
            house[pause] = whose;
            first[pause] = from;
            last[pause] = to;
            many++;
            return pause;
        }

        boolean cover(int whose, int day) {
            for (int pause = 0; pause < many; pause++) {
                if (house[pause] == whose && day >= first[pause] && day <= last[pause]) {
                    return true;
                }
            }
            return false;
        }
    }

    /** The carriers with what they did so far. */
    private static final class Carriers {
        int many = 0;
        final int[] cart = new int[MOST_CARRIERS];
        final int[] limit = new int[MOST_CARRIERS];
        final int[] biscuits = new int[MOST_CARRIERS];
        final int[] trips = new int[MOST_CARRIERS];
        final int[] effort = new int[MOST_CARRIERS];
        final int[] tips = new int[MOST_CARRIERS];
        final int[] delivered = new int[MOST_CARRIERS];

        void copyFrom(Carriers other) {
            many = other.many;
            copy(other.cart, cart, many);
            copy(other.limit, limit, many);
            copy(other.biscuits, biscuits, many);
            copy(other.trips, trips, many);
            copy(other.effort, effort, many);
            copy(other.tips, tips, many);
            copy(other.delivered, delivered, many);
        }

        boolean has(int carrier) {
            return within(carrier, 0, many - 1);
        }

        // A carrier that an undone change added may have left its numbers here, so all are written anew.
        int add(int withCart, int most) {
            int carrier = many;
            cart[carrier] = withCart;
            limit[carrier] = most;
            biscuits[carrier] = 0;
            trips[carrier] = 0;
            effort[carrier] = 0;
            tips[carrier] = 0;
            delivered[carrier] = 0;
            many++;
            return carrier;
        }

        int allTips() {
            int sum = 0;
            for (int carrier = 0; carrier < many; carrier++) {
                sum += tips[carrier];
            }
            return sum;
        }
    }

    /** Everything that a change can change; its calls answer as those of the face do. */
    private static final class Town {
        int day = 0;
        int weight = 3;
        int sundayWeight = 8;
        final int[] accounts = new int[ACCOUNTS];
        final Streets streets = new Streets();
        final Houses houses = new Houses();
        final Pauses pauses = new Pauses();
        final Carriers carriers = new Carriers();

        void copyFrom(Town other) {
            day = other.day;
            weight = other.weight;
            sundayWeight = other.sundayWeight;
            copy(other.accounts, accounts, ACCOUNTS);
            streets.copyFrom(other.streets);
            houses.copyFrom(other.houses);
            pauses.copyFrom(other.pauses);
            carriers.copyFrom(other.carriers);
        }

        int addCorner(int ahead, int length, int height, int stairs) {
            if (!streets.has(ahead) || !within(length, 1, 50) || !within(height, 0, 100) || !within(stairs, 0, 1)) {
                return INVALID_ARGUMENT;
            }
            return streets.many >= MOST_CORNERS ? LIMIT_REACHED : streets.add(ahead, length, height, stairs);
        }

        int addHouse(int corner, int papers, int tip) {
            if (!streets.has(corner) || !within(papers, 1, 5) || !within(tip, 0, 500)) {
                return INVALID_ARGUMENT;
            }
            return houses.many >= MOST_HOUSES ? LIMIT_REACHED : houses.add(streets, corner, papers, tip);
        }

        int changeDog(int house, int period, int phase) {
            boolean goodPeriod = period == 0 || within(period, 2, 9);
            if (!houses.has(house) || !goodPeriod || !within(phase, 0, 8)) {
                return INVALID_ARGUMENT;
            }
            int before = houses.period[house];
            houses.period[house] = period;
            houses.phase[house] = phase;
            return before;
        }

        int addPause(int house, int first, int last) {
            if (!houses.has(house) || !within(first, day, LAST_DAY) || !within(last, first, LAST_DAY)) {
                return INVALID_ARGUMENT;
            }
            return pauses.many >= MOST_PAUSES ? LIMIT_REACHED : pauses.add(house, first, last);
        }

        int addCarrier(int cart, int limit) {
            if (!within(cart, 0, 1) || !within(limit, 10, 500)) {
                return INVALID_ARGUMENT;
            }
            return carriers.many >= MOST_CARRIERS ? LIMIT_REACHED : carriers.add(cart, limit);
        }

        int handOver(int house, int carrier) {
            if (!houses.has(house) || !carriers.has(carrier)) {
                return INVALID_ARGUMENT;
            }
            if (houses.carrier[house] == carrier || !canReach(carrier, house)) {
                return NOT_POSSIBLE;
            }
            houses.carrier[house] = carrier;
            return houses.manyOf(carrier);
        }

        int takeBack(int house) {
            if (!houses.has(house)) {
                return INVALID_ARGUMENT;
            }
            int before = houses.carrier[house];
            if (before == NONE) {
                return NOT_POSSIBLE;
            }
            houses.carrier[house] = NONE;
            return before;
        }

        int addBiscuits(int carrier, int many) {
            if (!carriers.has(carrier) || !within(many, 1, 99)) {
                return INVALID_ARGUMENT;
            }
            if (carriers.biscuits[carrier] + many > MOST_BISCUITS) {
                return LIMIT_REACHED;
            }
            carriers.biscuits[carrier] += many;
            return carriers.biscuits[carrier];
        }

        int changeSetting(int what, int value) {
            int before;
            if (what == 0 && within(value, 1, 20)) {
                before = weight;
                weight = value;
                return before;
            }
            if (what == 1 && within(value, 1, 50)) {
                before = sundayWeight;
                sundayWeight = value;
                return before;
            }
            return INVALID_ARGUMENT;
        }

        int letDaysGo(int days, Walk walk) {
            if (!within(days, 1, 31)) {
                return INVALID_ARGUMENT;
            }
            if (day + days > LAST_PRESENT_DAY) {
                return LIMIT_REACHED;
            }
            int before = accounts[DELIVERED];
            for (int gone = 0; gone < days; gone++) {
                for (int carrier = 0; carrier < carriers.many; carrier++) {
                    walk.go(this, carrier, day, NONE);
                    carriers.trips[carrier] += walk.trips;
                    carriers.effort[carrier] += walk.effort;
                }
                bringPapers();
                if (isSunday(day)) {
                    payTips();
                    houses.beginWeek();
                }
                day++;
            }
            return accounts[DELIVERED] - before;
        }

        // All rounds are one pass here: they have no house or biscuit in common, and each keeps its order.
        private void bringPapers() {
            for (int i = 0; i < houses.many; i++) {
                int house = houses.order[i];
                int papers = houses.papers[house];
                int fate = fateOfPapers(house);
                accounts[ALL] += papers;
                accounts[fate] += papers;
                book(house, papers, fate);
            }
        }

        private int fateOfPapers(int house) {
            int carrier = houses.carrier[house];
            if (pauses.cover(house, day)) {
                return PAUSED;
            }
            if (carrier == NONE) {
                return LOST;
            }
            if (houses.papers[house] * weightOn(day) > carriers.limit[carrier]) {
                return TOO_HEAVY;
            }
            if (houses.dogIsOut(house, day)) {
                if (carriers.biscuits[carrier] == 0) {
                    return BY_DOG;
                }
                carriers.biscuits[carrier]--;
            }
            return DELIVERED;
        }

        private void book(int house, int papers, int fate) {
            if (fate == PAUSED) {
                houses.paused[house] += papers;
            } else if (fate == DELIVERED) {
                houses.delivered[house] += papers;
                houses.freshDelivered[house] += papers;
                carriers.delivered[houses.carrier[house]] += papers;
            } else if (fate == LOST) {
                houses.lost[house] += papers;
                houses.complain(house);
            } else {
                houses.returned[house] += papers;
                houses.complain(house);
            }
        }

        private void payTips() {
            for (int house = 0; house < houses.many; house++) {
                int carrier = houses.carrier[house];
                if (carrier != NONE) {
                    carriers.tips[carrier] += houses.tipNow(house);
                }
            }
        }

        int weightOn(int when) {
            return isSunday(when) ? sundayWeight : weight;
        }

        private static boolean isSunday(int when) {
            return when % 7 == 6;
        }

        boolean canReach(int carrier, int house) {
            return carriers.cart[carrier] == 0 || streets.cartsCome[houses.corner[house]] == 1;
        }

        int housesFrom(int corner) {
            int found = 0;
            for (int house = 0; house < houses.many; house++) {
                if (streets.isAtOrBeyond(houses.corner[house], corner)) {
                    found++;
                }
            }
            return found;
        }

        int housesPaused() {
            int found = 0;
            for (int house = 0; house < houses.many; house++) {
                if (pauses.cover(house, day)) {
                    found++;
                }
            }
            return found;
        }
    }

    /** The round of a carrier on a day, with its trips; it changes nothing in the town. */
    private static final class Walk {
        int trips = 0;
        int effort = 0;
        int papers = 0;
        int dogs = 0;
        private int onTrip = 0;
        private final int[] load = new int[MOST_CORNERS];

        // The guest is a house that is taken as if it was given to this carrier.
        void go(Town town, int carrier, int day, int guest) {
            clear();
            Houses houses = town.houses;
            int weight = town.weightOn(day);
            int limit = town.carriers.limit[carrier];
            for (int i = 0; i < houses.many; i++) {
                int house = houses.order[i];
                int more = houses.papers[house] * weight;
                boolean ofRound = houses.carrier[house] == carrier || house == guest;
                if (ofRound && more <= limit && !town.pauses.cover(house, day)) {
                    if (trips == 0 || onTrip + more > limit) {
                        endTrip(town.streets, town.carriers.cart[carrier]);
                        trips++;
                    }
                    onTrip += more;
                    load[houses.corner[house]] += more;
                    papers += houses.papers[house];
                    dogs += houses.dogIsOut(house, day) ? 1 : 0;
                }
            }
            endTrip(town.streets, town.carriers.cart[carrier]);
        }

        private void clear() {
            trips = 0;
            effort = 0;
            papers = 0;
            dogs = 0;
        }

        // From the highest number down, so that the load of a corner is whole when its street is reckoned.
        private void endTrip(Streets streets, int cart) {
            for (int corner = streets.many - 1; corner > DEPOT; corner--) {
                if (load[corner] > 0) {
                    effort += streets.effortOfStreet(corner, load[corner], cart);
                    load[streets.ahead[corner]] += load[corner];
                    load[corner] = 0;
                }
            }
            load[DEPOT] = 0;
            onTrip = 0;
        }

        int moreEffort(Town town, int carrier, int day, int guest) {
            go(town, carrier, day, NONE);
            int without = effort;
            go(town, carrier, day, guest);
            return effort - without;
        }
    }

    /** The states before the latest changes, the oldest first, in a ring of rows that are used again. */
    private static final class History {
        // One more than are kept: there the state before a change waits until the change has no error.
        private static final int ROWS = MOST_STATES + 1;

        int kept = 0;
        private int oldest = 0;
        private final Town[] rows = new Town[ROWS];

        History() {
            for (int i = 0; i < ROWS; i++) {
                rows[i] = new Town();
            }
        }

        void prepare(Town town) {
            rows[(oldest + kept) % ROWS].copyFrom(town);
        }

        void keepPrepared() {
            if (kept < MOST_STATES) {
                kept++;
            } else {
                oldest = (oldest + 1) % ROWS;
            }
        }

        void restoreInto(Town town) {
            if (kept > 0) {
                kept--;
                town.copyFrom(rows[(oldest + kept) % ROWS]);
            }
        }
    }

    /** The text, and the order that was read from it last. */
    private static final class Text {
        int length = 0;
        private final char[] signs = new char[MOST_SIGNS];

        char kind = ' ';
        int next = 0;
        final int[] numbers = new int[3];

        int append(char sign) {
            if (length >= MOST_SIGNS) {
                return LIMIT_REACHED;
            }
            signs[length] = sign;
            length++;
            return length;
        }

        // False if what starts here is not of the form of an order, its ";" included.
        boolean readOrder(int start) {
            if (!within(start, 0, length - 1)) {
                return false;
            }
            kind = signs[start];
            next = start + 1;
            int wanted = numbersOf(kind);
            for (int i = 0; i < wanted; i++) {
                int number = readNumber();
                if (number == NONE || !readSign(i == wanted - 1 ? ';' : ',')) {
                    return false;
                }
                numbers[i] = number;
            }
            return wanted > 0;
        }

        private static int numbersOf(char kind) {
            switch (kind) {
                case 'p': return 3;
                case 'g': return 2;
                case 'b': return 2;
                case 'n': return 1;
                case 'd': return 1;
                default: return 0;
            }
        }

        private int readNumber() {
            int value = 0;
            int digits = 0;
            while (digits < 3 && next < length && within(signs[next], '0', '9')) {
                value = value * 10 + (signs[next] - '0');
                digits++;
                next++;
            }
            return digits == 0 ? NONE : value;
        }

        private boolean readSign(char sign) {
            if (next >= length || signs[next] != sign) {
                return false;
            }
            next++;
            return true;
        }
    }

    /** The orders of the text, done on a town of its own up to the first that is not possible. */
    private static final class Trial {
        final Town town = new Town();
        int orders = 0;
        int position = 0;
        int reason = 0;
        int cause = 0;

        void run(Town now, Text text, Walk walk) {
            town.copyFrom(now);
            orders = 0;
            position = 0;
            reason = 0;
            cause = 0;
            while (reason == 0 && position < text.length && orders < MOST_SIGNS) {
                if (!text.readOrder(position)) {
                    reason = BAD_FORM;
                } else {
                    int answer = answerOf(text.kind, text.numbers, walk);
                    if (answer < 0) {
                        reason = BAD_CALL;
                        cause = answer;
                    } else {
                        orders++;
                        position = text.next;
                    }
                }
            }
        }

        private int answerOf(char kind, int[] numbers, Walk walk) {
            switch (kind) {
                case 'p': return town.addPause(numbers[0], numbers[1], numbers[2]);
                case 'g': return town.handOver(numbers[0], numbers[1]);
                case 'n': return town.takeBack(numbers[0]);
                case 'b': return town.addBiscuits(numbers[0], numbers[1]);
                default: return town.letDaysGo(numbers[0], walk);
            }
        }
    }
}
