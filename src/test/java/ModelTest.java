import java.util.ArrayList;
import java.util.List;

/**
 * Long made-up runs of calls, compared with a second program of the same document that is written as
 * plainly as can be: lists of objects, states copied whole, each trip a list of houses.
 */
public final class ModelTest {
    private static final int INVALID = -1;
    private static final int NOT_POSSIBLE = -2;
    private static final int LIMIT = -3;
    private static final int NOT_FOUND = -4;

    // ---- the second program

    private static final class Corner {
        int ahead;
        int length;
        int height;
        int stairs;
    }

    private static final class House {
        int corner;
        int papers;
        int tip;
        int carrier = -1;
        int period;
        int phase;
        int delivered;
        int paused;
        int dogReturned;
        int heavyReturned;
        int lost;
        int complaints;
        int weekComplaints;
        boolean weekDelivered;

        House copy() {
            House h = new House();
            h.corner = corner;
            h.papers = papers;
            h.tip = tip;
            h.carrier = carrier;
            h.period = period;
            h.phase = phase;
            h.delivered = delivered;
            h.paused = paused;
            h.dogReturned = dogReturned;
            h.heavyReturned = heavyReturned;
            h.lost = lost;
            h.complaints = complaints;
            h.weekComplaints = weekComplaints;
            h.weekDelivered = weekDelivered;
            return h;
        }
    }

    private static final class Carrier {
        int cart;
        int limit;
        int biscuits;
        int trips;
        int effort;
        int tips;
        int delivered;

        Carrier copy() {
            Carrier c = new Carrier();
            c.cart = cart;
            c.limit = limit;
            c.biscuits = biscuits;
            c.trips = trips;
            c.effort = effort;
            c.tips = tips;
            c.delivered = delivered;
            return c;
        }
    }

    private static final class State {
        List<Corner> corners = new ArrayList<>();
        List<House> houses = new ArrayList<>();
        List<Carrier> carriers = new ArrayList<>();
        List<int[]> pauses = new ArrayList<>();
        int[] settings = {3, 8};
        int day;

        State() {
            Corner depot = new Corner();
            depot.ahead = -1;
            corners.add(depot);
        }

        State copy() {
            State s = new State();
            s.corners = new ArrayList<>(corners);
            for (House h : houses) {
                s.houses.add(h.copy());
            }
            for (Carrier c : carriers) {
                s.carriers.add(c.copy());
            }
            s.pauses = new ArrayList<>(pauses);
            s.settings = settings.clone();
            s.day = day;
            return s;
        }

        // The corners on the way from the depot to this one, the depot left out.
        List<Integer> way(int corner) {
            List<Integer> way = new ArrayList<>();
            for (int at = corner; at != 0; at = corners.get(at).ahead) {
                way.add(at);
            }
            return way;
        }

        boolean stairsTo(int corner) {
            for (int at : way(corner)) {
                if (corners.get(at).stairs == 1) {
                    return true;
                }
            }
            return false;
        }

        boolean reaches(int carrier, int house) {
            return carriers.get(carrier).cart == 0 || !stairsTo(houses.get(house).corner);
        }

        void walk(int corner, List<Integer> into) {
            for (int h = 0; h < houses.size(); h++) {
                if (houses.get(h).corner == corner) {
                    into.add(h);
                }
            }
            for (int c = 1; c < corners.size(); c++) {
                if (corners.get(c).ahead == corner) {
                    walk(c, into);
                }
            }
        }

        List<Integer> roundOf(int carrier) {
            List<Integer> all = new ArrayList<>();
            walk(0, all);
            List<Integer> mine = new ArrayList<>();
            for (int h : all) {
                if (houses.get(h).carrier == carrier) {
                    mine.add(h);
                }
            }
            return mine;
        }

        boolean isPaused(int house, int when) {
            for (int[] p : pauses) {
                if (p[0] == house && p[1] <= when && when <= p[2]) {
                    return true;
                }
            }
            return false;
        }

        boolean dogOut(int house, int when) {
            House h = houses.get(house);
            return h.period != 0 && when % h.period == h.phase % h.period;
        }

        int weighs(int house, int when) {
            return houses.get(house).papers * (when % 7 == 6 ? settings[1] : settings[0]);
        }

        List<List<Integer>> tripsOf(int carrier, int when) {
            List<List<Integer>> trips = new ArrayList<>();
            int on = 0;
            for (int h : roundOf(carrier)) {
                int w = weighs(h, when);
                if (isPaused(h, when) || w > carriers.get(carrier).limit) {
                    continue;
                }
                if (trips.isEmpty() || on + w > carriers.get(carrier).limit) {
                    trips.add(new ArrayList<>());
                    on = 0;
                }
                trips.get(trips.size() - 1).add(h);
                on += w;
            }
            return trips;
        }

        int effortOf(List<Integer> trip, int cart, int when) {
            int r = cart == 1 ? 20 : 10;
            int sum = 0;
            for (int c = 1; c < corners.size(); c++) {
                int beyond = 0;
                int weight = 0;
                for (int h : trip) {
                    if (way(houses.get(h).corner).contains(c)) {
                        beyond++;
                        weight += weighs(h, when);
                    }
                }
                if (beyond > 0) {
                    Corner corner = corners.get(c);
                    int up = corner.height - corners.get(corner.ahead).height;
                    sum += 2 * corner.length;
                    sum += up > 0 ? up * (r + weight) / r : Math.abs(up);
                }
            }
            return sum;
        }

        int effortOn(int carrier, int when) {
            int sum = 0;
            for (List<Integer> trip : tripsOf(carrier, when)) {
                sum += effortOf(trip, carriers.get(carrier).cart, when);
            }
            return sum;
        }

        int sum(int what) {
            int sum = 0;
            for (House h : houses) {
                int[] parts = {h.delivered, h.paused, h.dogReturned, h.heavyReturned, h.lost, h.complaints};
                sum += parts[what];
            }
            return sum;
        }

        int bundles() {
            return sum(0) + sum(1) + sum(2) + sum(3) + sum(4);
        }

        void complain(House h) {
            h.complaints++;
            h.weekComplaints++;
        }

        void dayOf(int carrier) {
            Carrier c = carriers.get(carrier);
            List<List<Integer>> trips = tripsOf(carrier, day);
            c.trips += trips.size();
            c.effort += effortOn(carrier, day);
            for (int n : roundOf(carrier)) {
                House h = houses.get(n);
                if (isPaused(n, day)) {
                    continue;
                }
                if (weighs(n, day) > c.limit) {
                    h.heavyReturned += h.papers;
                    complain(h);
                } else if (dogOut(n, day) && c.biscuits == 0) {
                    h.dogReturned += h.papers;
                    complain(h);
                } else {
                    c.biscuits -= dogOut(n, day) ? 1 : 0;
                    h.delivered += h.papers;
                    h.weekDelivered = true;
                    c.delivered += h.papers;
                }
            }
        }

        void oneDay() {
            for (int n = 0; n < houses.size(); n++) {
                House h = houses.get(n);
                if (isPaused(n, day)) {
                    h.paused += h.papers;
                } else if (h.carrier == -1) {
                    h.lost += h.papers;
                    complain(h);
                }
            }
            for (int c = 0; c < carriers.size(); c++) {
                dayOf(c);
            }
            if (day % 7 == 6) {
                for (House h : houses) {
                    if (h.carrier != -1 && h.weekDelivered && h.weekComplaints < 2) {
                        carriers.get(h.carrier).tips += h.weekComplaints == 0 ? h.tip : h.tip / 2;
                    }
                    h.weekComplaints = 0;
                    h.weekDelivered = false;
                }
            }
            day++;
        }
    }

    private static final class Model {
        State now = new State();
        List<State> history = new ArrayList<>();
        String text = "";

        boolean in(int value, int low, int high) {
            return low <= value && value <= high;
        }

        boolean isHouse(int h) {
            return in(h, 0, now.houses.size() - 1);
        }

        boolean isCarrier(int c) {
            return in(c, 0, now.carriers.size() - 1);
        }

        int change(int what, int[] a) {
            State before = now.copy();
            int answer = act(what, a);
            if (answer < 0) {
                now = before;
            } else {
                history.add(before);
                if (history.size() > 4) {
                    history.remove(0);
                }
            }
            return answer;
        }

        int act(int what, int[] a) {
            switch (what) {
                case 0: return corner(a[0], a[1], a[2], a[3]);
                case 1: return house(a[0], a[1], a[2]);
                case 2: return dog(a[0], a[1], a[2]);
                case 3: return pause(a[0], a[1], a[2]);
                case 4: return carrier(a[0], a[1]);
                case 5: return give(a[0], a[1]);
                case 6: return giveNone(a[0]);
                case 7: return biscuits(a[0], a[1]);
                case 8: return set(a[0], a[1]);
                default: return days(a[0]);
            }
        }

        int corner(int ahead, int length, int height, int stairs) {
            if (!in(ahead, 0, now.corners.size() - 1) || !in(length, 1, 50) || !in(height, 0, 100) || !in(stairs, 0, 1)) {
                return INVALID;
            }
            if (now.corners.size() == 20) {
                return LIMIT;
            }
            Corner c = new Corner();
            c.ahead = ahead;
            c.length = length;
            c.height = height;
            c.stairs = stairs;
            now.corners.add(c);
            return now.corners.size() - 1;
        }

        int house(int corner, int papers, int tip) {
            if (!in(corner, 0, now.corners.size() - 1) || !in(papers, 1, 5) || !in(tip, 0, 500)) {
                return INVALID;
            }
            if (now.houses.size() == 24) {
                return LIMIT;
            }
            House h = new House();
            h.corner = corner;
            h.papers = papers;
            h.tip = tip;
            now.houses.add(h);
            return now.houses.size() - 1;
        }

        int dog(int house, int period, int phase) {
            if (!isHouse(house) || period != 0 && !in(period, 2, 9) || !in(phase, 0, 8)) {
                return INVALID;
            }
            House h = now.houses.get(house);
            int before = h.period;
            h.period = period;
            h.phase = phase;
            return before;
        }

        int pause(int house, int first, int last) {
            if (!isHouse(house) || !in(first, now.day, 999) || !in(last, first, 999)) {
                return INVALID;
            }
            if (now.pauses.size() == 30) {
                return LIMIT;
            }
            now.pauses.add(new int[] {house, first, last});
            return now.pauses.size() - 1;
        }

        int carrier(int cart, int limit) {
            if (!in(cart, 0, 1) || !in(limit, 10, 500)) {
                return INVALID;
            }
            if (now.carriers.size() == 3) {
                return LIMIT;
            }
            Carrier c = new Carrier();
            c.cart = cart;
            c.limit = limit;
            now.carriers.add(c);
            return now.carriers.size() - 1;
        }

        int give(int house, int carrier) {
            if (!isHouse(house) || !isCarrier(carrier)) {
                return INVALID;
            }
            if (now.houses.get(house).carrier == carrier || !now.reaches(carrier, house)) {
                return NOT_POSSIBLE;
            }
            now.houses.get(house).carrier = carrier;
            return now.roundOf(carrier).size();
        }

        int giveNone(int house) {
            if (!isHouse(house)) {
                return INVALID;
            }
            int had = now.houses.get(house).carrier;
            now.houses.get(house).carrier = -1;
            return had == -1 ? NOT_POSSIBLE : had;
        }

        int biscuits(int carrier, int many) {
            if (!isCarrier(carrier) || !in(many, 1, 99)) {
                return INVALID;
            }
            now.carriers.get(carrier).biscuits += many;
            return now.carriers.get(carrier).biscuits > 500 ? LIMIT : now.carriers.get(carrier).biscuits;
        }

        int set(int what, int value) {
            if (!in(what, 0, 1) || !in(value, 1, what == 0 ? 20 : 50)) {
                return INVALID;
            }
            int before = now.settings[what];
            now.settings[what] = value;
            return before;
        }

        int days(int days) {
            if (!in(days, 1, 31)) {
                return INVALID;
            }
            if (now.day + days > 1000) {
                return LIMIT;
            }
            int before = now.sum(0);
            for (int i = 0; i < days; i++) {
                now.oneDay();
            }
            return now.sum(0) - before;
        }

        int cornerOf(int corner, int what) {
            if (!in(corner, 0, now.corners.size() - 1) || !in(what, 0, 6)) {
                return INVALID;
            }
            if (corner == 0 && (what == 0 || what == 1 || what == 3)) {
                return NOT_FOUND;
            }
            Corner c = now.corners.get(corner);
            int far = 0;
            for (int at : now.way(corner)) {
                far += now.corners.get(at).length;
            }
            List<Integer> beyond = new ArrayList<>();
            now.walk(corner, beyond);
            int[] told = {c.ahead, c.length, c.height, c.stairs, far, beyond.size(), now.stairsTo(corner) ? 0 : 1};
            return told[what];
        }

        int houseOf(int house, int what) {
            if (!isHouse(house) || !in(what, 0, 11)) {
                return INVALID;
            }
            House h = now.houses.get(house);
            int[] told = {
                h.corner, h.papers, h.tip, h.carrier == -1 ? NOT_FOUND : h.carrier, h.period == 0 ? NOT_FOUND : h.period,
                now.isPaused(house, now.day) ? 1 : 0, h.delivered, h.paused, h.dogReturned + h.heavyReturned, h.lost,
                h.complaints, h.weekComplaints};
            return told[what];
        }

        int due(House h) {
            return h.delivered + h.dogReturned + h.heavyReturned + h.lost;
        }

        int shareBits(int house) {
            if (!isHouse(house)) {
                return INVALID;
            }
            House h = now.houses.get(house);
            return due(h) == 0 ? NOT_FOUND : Float.floatToIntBits((float) h.delivered / (float) due(h));
        }

        int meanBits() {
            double sum = 0;
            int many = 0;
            for (House h : now.houses) {
                if (due(h) > 0) {
                    sum += (float) h.delivered / (float) due(h);
                    many++;
                }
            }
            return many == 0 ? NOT_FOUND : Float.floatToIntBits((float) (sum / many));
        }

        int carrierOf(int carrier, int what) {
            if (!isCarrier(carrier) || !in(what, 0, 7)) {
                return INVALID;
            }
            Carrier c = now.carriers.get(carrier);
            int[] told = {
                c.cart, c.limit, c.biscuits, now.roundOf(carrier).size(), c.trips, c.effort, c.tips, c.delivered};
            return told[what];
        }

        int pauseOf(int pause, int what) {
            boolean right = in(pause, 0, now.pauses.size() - 1) && in(what, 0, 2);
            return right ? now.pauses.get(pause)[what] : INVALID;
        }

        int roundAt(int carrier, int index) {
            if (!isCarrier(carrier) || index < 0) {
                return INVALID;
            }
            List<Integer> round = now.roundOf(carrier);
            return index < round.size() ? round.get(index) : NOT_FOUND;
        }

        int round(int carrier, int day, int what) {
            if (!isCarrier(carrier) || !in(day, now.day, 999) || !in(what, 0, 3)) {
                return INVALID;
            }
            int papers = 0;
            int dogs = 0;
            for (List<Integer> trip : now.tripsOf(carrier, day)) {
                for (int h : trip) {
                    papers += now.houses.get(h).papers;
                    dogs += now.dogOut(h, day) ? 1 : 0;
                }
            }
            int[] told = {now.tripsOf(carrier, day).size(), now.effortOn(carrier, day), papers, dogs};
            return told[what];
        }

        int lightest(int house, int day) {
            if (!isHouse(house) || !in(day, now.day, 999)) {
                return INVALID;
            }
            int best = NOT_FOUND;
            int least = Integer.MAX_VALUE;
            for (int c = 0; c < now.carriers.size(); c++) {
                if (now.houses.get(house).carrier != c && now.reaches(c, house)) {
                    State then = now.copy();
                    then.houses.get(house).carrier = c;
                    int more = then.effortOn(c, day) - now.effortOn(c, day);
                    if (more < least) {
                        least = more;
                        best = c;
                    }
                }
            }
            return best;
        }

        int nextDog(int house) {
            if (!isHouse(house)) {
                return INVALID;
            }
            for (int day = now.day; day < 1000; day++) {
                if (now.dogOut(house, day) && !now.isPaused(house, day)) {
                    return day;
                }
            }
            return NOT_FOUND;
        }

        int account(int what) {
            if (!in(what, 0, 5)) {
                return INVALID;
            }
            return what == 0 ? now.bundles() : now.sum(what - 1);
        }

        int count(int what) {
            int none = 0;
            int paused = 0;
            int tips = 0;
            for (int h = 0; h < now.houses.size(); h++) {
                none += now.houses.get(h).carrier == -1 ? 1 : 0;
                paused += now.isPaused(h, now.day) ? 1 : 0;
            }
            for (Carrier c : now.carriers) {
                tips += c.tips;
            }
            int[] told = {
                now.corners.size(), now.houses.size(), now.carriers.size(), now.pauses.size(), now.day, none, paused,
                now.sum(5), tips, history.size(), text.length()};
            if (what == 20 || what == 21) {
                return now.settings[what - 20];
            }
            return in(what, 0, 10) ? told[what] : INVALID;
        }

        int undo() {
            if (history.isEmpty()) {
                return NOT_POSSIBLE;
            }
            now = history.remove(history.size() - 1);
            return history.size();
        }

        int type(int character) {
            if (!in(character, 32, 126)) {
                return INVALID;
            }
            if (text.length() == 60) {
                return LIMIT;
            }
            text += (char) character;
            return text.length();
        }

        int clearText() {
            int length = text.length();
            text = "";
            return length;
        }

        // {position, reason, cause, orders}; the orders are done, whoever calls puts the state back.
        int[] runText() {
            String rest = text;
            int orders = 0;
            while (!rest.isEmpty()) {
                int at = text.length() - rest.length();
                java.util.regex.Matcher m = java.util.regex.Pattern.compile(
                    "^(p#,#,#|g#,#|n#|b#,#|d#);".replace("#", "[0-9]{1,3}")).matcher(rest);
                if (!m.find()) {
                    return new int[] {at, 1, 0, orders};
                }
                String[] parts = m.group(1).substring(1).split(",");
                int[] a = new int[4];
                for (int i = 0; i < parts.length; i++) {
                    a[i] = Integer.parseInt(parts[i]);
                }
                int answer = act(new int[] {3, 5, 6, 7, 9}["pgnbd".indexOf(rest.charAt(0))], a);
                if (answer < 0) {
                    return new int[] {at, 2, answer, orders};
                }
                orders++;
                rest = rest.substring(m.end());
            }
            return new int[] {0, 0, 0, orders};
        }

        int fault(int what) {
            if (!in(what, 0, 2)) {
                return INVALID;
            }
            State before = now.copy();
            int[] found = runText();
            now = before;
            return found[1] == 0 || what == 2 && found[1] == 1 ? NOT_FOUND : found[what];
        }

        int play() {
            State before = now.copy();
            int[] found = runText();
            if (found[1] != 0) {
                now = before;
                return NOT_POSSIBLE;
            }
            history.add(before);
            if (history.size() > 4) {
                history.remove(0);
            }
            return found[3];
        }
    }

    // ---- the runs

    // What an object answers after so many calls is free, so it is not compared.
    private static final int MOST_CALLS = 512;

    private static long seed = 1;
    private static PaperRounds real;
    private static Model model;
    private static int run = 0;
    private static int calls = 0;
    private static int callsOfRun = 0;
    private static int latest = 0;
    private static int wrong = 0;
    private static final int[] ANSWERS = new int[5];

    private static int below(int bound) {
        seed = seed * 6364136223846793005L + 1442695040888963407L;
        return (int) ((seed >>> 33) % bound);
    }

    // Mostly what is in the range, seldom just beside it, and now and then something extreme.
    private static int some(int low, int high) {
        int pick = below(40);
        if (pick == 0) {
            return low - 1;
        }
        if (pick == 1) {
            return high + 1;
        }
        if (pick == 2) {
            return below(2) == 0 ? Integer.MIN_VALUE + below(9) : Integer.MAX_VALUE - below(9);
        }
        if (pick < 6) {
            return below(2) == 0 ? low : high;
        }
        return high < low ? low : low + below(high - low + 1);
    }

    private static void same(String call, int got, int want, int... a) {
        callsOfRun++;
        if (callsOfRun > MOST_CALLS) {
            return;
        }
        calls++;
        ANSWERS[want < 0 ? -want : 0]++;
        if (got != want) {
            wrong++;
            System.out.println("run " + run + ": " + call + java.util.Arrays.toString(a)
                + " answered " + got + ", due is " + want);
        }
    }

    private static int house() {
        return some(0, model.now.houses.size() - 1);
    }

    private static int carrier() {
        return some(0, model.now.carriers.size() - 1);
    }

    private static int corner() {
        return some(0, model.now.corners.size() - 1);
    }

    private static void build() {
        int[] a = new int[4];
        switch (below(5)) {
            case 0:
                a = new int[] {corner(), some(1, 50), some(0, 100), below(4) == 0 ? some(0, 1) : 0};
                same("corner", real.corner(a[0], a[1], a[2], a[3]), model.change(0, a), a);
                break;
            case 1:
                a = new int[] {corner(), some(1, 5), some(0, 500), 0};
                same("house", real.house(a[0], a[1], a[2]), model.change(1, a), a);
                break;
            case 2:
                a = new int[] {house(), below(5) == 0 ? 0 : some(2, 9), some(0, 8), 0};
                same("dog", real.dog(a[0], a[1], a[2]), model.change(2, a), a);
                break;
            case 3:
                a = new int[] {some(0, 1), below(2) == 0 ? some(10, 60) : some(10, 500), 0, 0};
                same("carrier", real.carrier(a[0], a[1]), model.change(4, a), a);
                break;
            default:
                a = new int[] {house(), carrier(), 0, 0};
                same("give", real.give(a[0], a[1]), model.change(5, a), a);
                break;
        }
    }

    private static void live() {
        int[] a = new int[4];
        switch (below(8)) {
            case 0:
                a[0] = house();
                a[1] = below(3) == 0 ? some(model.now.day, 999) : model.now.day + below(20) - 1;
                a[2] = below(3) == 0 ? some(a[1], 999) : a[1] + below(30) - 1;
                same("pause", real.pause(a[0], a[1], a[2]), model.change(3, a), a);
                break;
            case 1:
            case 2:
                a = new int[] {house(), carrier(), 0, 0};
                same("give", real.give(a[0], a[1]), model.change(5, a), a);
                break;
            case 3:
                a[0] = house();
                if (below(4) == 0) {
                    same("giveNone", real.giveNone(a[0]), model.change(6, a), a);
                }
                break;
            case 4:
                a = new int[] {carrier(), some(1, 99), 0, 0};
                same("biscuits", real.biscuits(a[0], a[1]), model.change(7, a), a);
                break;
            case 5:
                a[0] = some(0, 1);
                a[1] = some(1, a[0] == 1 ? 50 : 20);
                same("set", real.set(a[0], a[1]), model.change(8, a), a);
                break;
            default:
                a[0] = below(3) == 0 ? some(1, 31) : 1 + below(3);
                same("days", real.days(a[0]), model.change(9, a), a);
                break;
        }
    }

    private static void ask() {
        int h = house();
        int c = carrier();
        int day = below(2) == 0 ? some(model.now.day, 999) : model.now.day + below(14);
        int what = some(0, 3);
        switch (below(4)) {
            case 0:
                same("round", real.round(c, day, what), model.round(c, day, what), c, day, what);
                break;
            case 1:
                same("lightest", real.lightest(h, day), model.lightest(h, day), h, day);
                break;
            case 2:
                same("nextDog", real.nextDog(h), model.nextDog(h), h);
                break;
            default:
                int index = some(0, 8);
                same("roundAt", real.roundAt(c, index), model.roundAt(c, index), c, index);
                break;
        }
    }

    private static void tell() {
        int h = house();
        int c = carrier();
        int k = corner();
        int p = some(0, model.now.pauses.size() - 1);
        int of = some(0, 11);
        same("houseOf", real.houseOf(h, of), model.houseOf(h, of), h, of);
        same("carrierOf", real.carrierOf(c, of), model.carrierOf(c, of), c, of);
        same("cornerOf", real.cornerOf(k, of), model.cornerOf(k, of), k, of);
        same("pauseOf", real.pauseOf(p, of), model.pauseOf(p, of), p, of);
        same("shareBits", real.shareBits(h), model.shareBits(h), h);
        same("meanBits", real.meanBits(), model.meanBits());
        same("account", real.account(of), model.account(of), of);
        int number = some(0, 22);
        same("count", real.count(number), model.count(number), number);
    }

    private static String order() {
        String zeros = below(6) == 0 ? "0" : "";
        int h = below(Math.max(1, model.now.houses.size() + (below(9) == 0 ? 2 : 0)));
        int c = below(Math.max(1, model.now.carriers.size() + (below(9) == 0 ? 1 : 0)));
        int from = model.now.day + below(40);
        switch (below(6)) {
            case 0: return "p" + h + "," + from + "," + (from + below(20)) + ";";
            case 1: return "g" + zeros + h + "," + c + ";";
            case 2: return "n" + h + ";";
            case 3: return "b" + c + "," + zeros + below(101) + ";";
            case 4: return "" + (char) (32 + below(95));
            default: return "d" + zeros + (below(12) == 0 ? below(40) : 1 + below(5)) + ";";
        }
    }

    private static void texts() {
        int many = below(7);
        if (below(4) > 0) {
            same("clearText", real.clearText(), model.clearText());
        }
        for (int i = 0; i < many; i++) {
            String order = order();
            for (int j = 0; j < order.length(); j++) {
                int sign = below(200) == 0 ? some(32, 126) : order.charAt(j);
                same("type", real.type(sign), model.type(sign), sign);
            }
        }
        for (int what = -1; what < 4; what++) {
            same("fault", real.fault(what), model.fault(what), what);
        }
        if (below(2) == 0) {
            same("play", real.play(), model.play());
        }
    }

    // Everything that can be told, so that nothing stays hidden in the state.
    private static void tellAll() {
        for (int h = 0; h < model.now.houses.size(); h++) {
            for (int what = 0; what < 12; what++) {
                same("houseOf", real.houseOf(h, what), model.houseOf(h, what), h, what);
            }
            same("shareBits", real.shareBits(h), model.shareBits(h), h);
        }
        for (int c = 0; c < model.now.carriers.size(); c++) {
            for (int what = 0; what < 8; what++) {
                same("carrierOf", real.carrierOf(c, what), model.carrierOf(c, what), c, what);
            }
            for (int index = 0; index < 25; index++) {
                same("roundAt", real.roundAt(c, index), model.roundAt(c, index), c, index);
            }
        }
        for (int what = 0; what < 22; what++) {
            same("count", real.count(what), model.count(what), what);
        }
    }

    private static int callsOfTellAll() {
        return model.now.houses.size() * 13 + model.now.carriers.size() * 33 + 22;
    }

    // The present day comes near to the last one.
    private static void letYearsGo() {
        for (int i = 0; i < 31; i++) {
            int[] a = {some(29, 31), 0, 0, 0};
            same("days", real.days(a[0]), model.change(9, a), a);
        }
    }

    private static void step(int number) {
        if (number == 60 && run % 4 >= 2) {
            letYearsGo();
        }
        int pick = below(100);
        if (number < 90 && pick < 70) {
            build();
        } else if (pick < 50) {
            live();
        } else if (pick < 75) {
            ask();
        } else if (pick < 85) {
            tell();
        } else if (pick < 92) {
            same("undo", real.undo(), model.undo());
        } else if (pick < 96) {
            texts();
        } else {
            build();
        }
    }

    public static void main(String[] args) {
        for (run = 1; run <= 1500 && wrong < 20; run++) {
            seed = run;
            real = new PaperRounds();
            model = new Model();
            callsOfRun = 0;
            // Every other run keeps enough of its calls to tell everything in the end.
            for (int number = 0; callsOfRun < MOST_CALLS - run % 2 * callsOfTellAll() && wrong < 20; number++) {
                step(number);
            }
            tellAll();
            latest = Math.max(latest, model.now.day);
        }
        System.out.println(calls + " calls up to the day " + latest + ", " + wrong + " wrong; answers without error " + ANSWERS[0]
            + ", errors -1 to -4: " + ANSWERS[1] + " " + ANSWERS[2] + " " + ANSWERS[3] + " " + ANSWERS[4]);
        if (wrong > 0) {
            System.exit(1);
        }
    }
}
