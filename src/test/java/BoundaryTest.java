/**
 * The boundary cases of the document, one test for each sentence that names one: a test begins with the
 * words of its sentence. Ranges, limits and refused calls are tested in RefusalTest.
 */
public final class BoundaryTest {
    private static final int INVALID = -1;
    private static final int NOT_POSSIBLE = -2;
    private static final int LIMIT = -3;
    private static final int NOT_FOUND = -4;

    private static String sentence = "";
    private static int sentences = 0;
    private static int checks = 0;
    private static int wrong = 0;

    private static void says(String words) {
        sentence = words;
        sentences++;
    }

    private static void is(String call, int got, int want) {
        checks++;
        if (got != want) {
            wrong++;
            System.out.println("'" + sentence + "': " + call + " answered " + got + ", due is " + want);
        }
    }

    public static void main(String[] args) {
        numbersAndDays();
        streets();
        houses();
        carriers();
        order();
        fateOfPapers();
        trips();
        biscuits();
        effort();
        mostEffort();
        complaints();
        tips();
        tipsAtTheEdgesOfTheWeek();
        settings();
        texts();
        textsDone();
        changes();
        states();
        newObject();
        answersOfChanges();
        answersOfDays();
        answersOfPlaces();
        shares();
        means();
        forecasts();
        lightest();
        lightestLeftOut();
        dogs();
        accounts();
        counts();
        undone();
        textCalls();
        System.out.println(sentences + " sentences, " + checks + " checks, " + wrong + " wrong");
        if (wrong > 0) {
            System.exit(1);
        }
    }

    // ---- towns

    // A carrier on foot has a house of each of these papers at a corner that lies flat, 1 from the depot.
    private static PaperRounds roundOf(int limit, int... papers) {
        PaperRounds t = new PaperRounds();
        t.carrier(0, limit);
        t.corner(0, 1, 0, 0);
        for (int house = 0; house < papers.length; house++) {
            t.house(1, papers[house], 100);
            t.give(house, 0);
        }
        return t;
    }

    private static void goTo(PaperRounds t, int day) {
        while (t.count(4) < day) {
            t.days(Math.min(31, day - t.count(4)));
        }
    }

    private static void write(PaperRounds t, String text) {
        t.clearText();
        for (int i = 0; i < text.length(); i++) {
            t.type(text.charAt(i));
        }
    }

    // ---- terms

    private static void numbersAndDays() {
        says("divisions are rounded down");
        int[] loads = {1, 9, 10, 11, 19, 20};
        int[] onFoot = {1, 1, 2, 2, 2, 3};
        int[] withCart = {1, 1, 1, 1, 1, 2};
        for (int i = 0; i < loads.length; i++) {
            PaperRounds t = new PaperRounds();
            t.corner(0, 1, 1, 0);
            t.house(1, 1, 1);
            t.carrier(0, 20);
            t.carrier(1, 20);
            t.set(0, loads[i]);
            t.give(0, 0);
            is("round up 1 on foot with " + loads[i], t.round(0, 0, 1), 2 + onFoot[i]);
            t.give(0, 1);
            is("round up 1 with a cart with " + loads[i], t.round(1, 0, 1), 2 + withCart[i]);
        }
        int[] tips = {0, 1, 2, 3, 499, 500};
        int[] halves = {0, 0, 1, 1, 249, 250};
        for (int i = 0; i < tips.length; i++) {
            PaperRounds t = new PaperRounds();
            t.house(0, 1, tips[i]);
            t.carrier(0, 10);
            t.days(1);
            t.give(0, 0);
            t.days(6);
            is("half a tip of " + tips[i], t.count(8), halves[i]);
        }
        says("Days are numbered from 0; day d is a Sunday if d mod 7 is 6.");
        PaperRounds t = roundOf(10, 1);
        t.set(0, 10);
        t.set(1, 11);
        for (int day = 0; day <= 999; day += day < 30 || day >= 980 ? 1 : 50) {
            is("papers loaded on the day " + day, t.round(0, day, 2), day % 7 == 6 ? 0 : 1);
        }
        is("0 is the present day at first", t.count(4), 0);
        is("Monday to Saturday", t.days(6), 6);
        is("Sunday", t.days(1), 0);
        is("Monday", t.days(1), 1);
        is("to the Sunday after", t.days(6), 5);
        is("a Saturday, a Sunday and a Monday", t.days(7) + t.days(1), 6 + 1);
    }

    private static void streets() {
        says("corner 0 is the depot, and has the height 0");
        PaperRounds t = new PaperRounds();
        t.corner(0, 3, 0, 0);
        t.corner(0, 3, 1, 0);
        t.carrier(0, 30);
        t.house(1, 1, 0);
        t.house(2, 1, 0);
        t.give(0, 0);
        is("round to the height 0", t.round(0, 0, 1), 6);
        t.giveNone(0);
        t.give(1, 0);
        is("round to the height 1", t.round(0, 0, 1), 6 + 1);
        is("height", t.cornerOf(0, 2), 0);
        says("A corner is beyond a street if the way to it from the depot goes along this street.");
        PaperRounds u = new PaperRounds();
        u.corner(0, 1, 0, 0);
        u.corner(1, 10, 0, 0);
        u.corner(1, 30, 0, 0);
        u.carrier(0, 30);
        int[] efforts = {0, 2, 22, 62};
        for (int corner = 0; corner <= 3; corner++) {
            u.house(corner, 1, 0);
            u.give(corner, 0);
            is("round to the corner " + corner, u.round(0, 0, 1), efforts[corner]);
            u.giveNone(corner);
        }
        u.give(2, 0);
        u.give(3, 0);
        is("round to two corners, the street to both once", u.round(0, 0, 1), 82);
    }

    private static void houses() {
        says("The dog is out on the days d for which d mod p is the phase mod p.");
        for (int period = 2; period <= 9; period++) {
            for (int phase = 0; phase <= 8; phase++) {
                PaperRounds t = roundOf(500, 1);
                t.dog(0, period, phase);
                is("nextDog of " + period + ", " + phase, t.nextDog(0), phase % period);
                for (int day = 0; day <= 18; day++) {
                    is("dogs of " + period + ", " + phase + " on " + day, t.round(0, day, 3), (day + 8 * period - phase) % period == 0 ? 1 : 0);
                }
                t.days(2);
                int due = (phase % period == 0 ? 1 : 0) + (phase % period == 1 ? 1 : 0);
                is("returned by " + period + ", " + phase, t.account(3), due);
            }
        }
        says("A pause is of a house, from a first day to a last day (both included).");
        PaperRounds t = roundOf(500, 1, 2);
        t.pause(0, 5, 7);
        t.pause(1, 9, 9);
        t.pause(0, 0, 0);
        t.pause(1, 999, 999);
        int[] days = {0, 1, 4, 5, 6, 7, 8, 9, 10, 998, 999};
        int[] loaded = {2, 3, 3, 2, 2, 2, 3, 1, 3, 3, 1};
        for (int i = 0; i < days.length; i++) {
            is("papers loaded on the day " + days[i], t.round(0, days[i], 2), loaded[i]);
        }
        int[] pausedOne = {1, 0, 0, 0, 0, 1, 1, 1, 0, 0, 0};
        for (int day = 0; day <= 10; day++) {
            is("is the first one paused on " + day, t.houseOf(0, 5), pausedOne[day]);
            is("is the second one paused on " + day, t.houseOf(1, 5), day == 9 ? 1 : 0);
            is("houses paused on " + day, t.count(6), pausedOne[day] + (day == 9 ? 1 : 0));
            is("delivered on " + day, t.days(1), 3 - pausedOne[day] - (day == 9 ? 2 : 0));
        }
        says("A house is paused on a day if one of its pauses has it.");
        PaperRounds u = roundOf(500, 1, 1);
        u.pause(0, 3, 5);
        u.pause(0, 5, 6);
        u.pause(0, 2, 9);
        u.pause(1, 4, 4);
        is("papers on the day 1", u.round(0, 1, 2), 2);
        is("papers on a day of one", u.round(0, 2, 2), 1);
        is("papers on a day of both houses", u.round(0, 4, 2), 0);
        is("papers on a day of three pauses of one house", u.round(0, 5, 2), 1);
        is("papers on the last day of the longest", u.round(0, 9, 2), 1);
        is("papers after it", u.round(0, 10, 2), 2);
        is("delivered", u.days(10), 20 - 8 - 1);
        is("paused once a day, with three pauses too", u.houseOf(0, 7), 8);
    }

    private static void carriers() {
        says("There are at most 3 carriers, each with a limit and biscuits (0 at first).");
        PaperRounds t = new PaperRounds();
        for (int carrier = 0; carrier < 3; carrier++) {
            t.carrier(carrier == 1 ? 1 : 0, carrier == 0 ? 10 : 500);
            is("biscuits of " + carrier, t.carrierOf(carrier, 2), 0);
            is("limit of " + carrier, t.carrierOf(carrier, 1), carrier == 0 ? 10 : 500);
            is("cart of " + carrier, t.carrierOf(carrier, 0), carrier == 1 ? 1 : 0);
        }
        says("A house that can be reached only along stairs cannot be given to a carrier with a cart.");
        t.corner(0, 1, 0, 0);
        t.corner(1, 1, 0, 1);
        t.corner(2, 1, 0, 0);
        t.corner(1, 1, 0, 0);
        t.corner(0, 1, 0, 1);
        int[] reached = {1, 1, 0, 0, 1, 0};
        for (int corner = 0; corner <= 5; corner++) {
            t.house(corner, 1, 0);
            is("cornerOf " + corner + " 6", t.cornerOf(corner, 6), reached[corner]);
            is("give with a cart at " + corner, t.give(corner, 1) > 0 ? 1 : 0, reached[corner]);
            is("houseOf at " + corner, t.houseOf(corner, 3), reached[corner] == 1 ? 1 : NOT_FOUND);
        }
        for (int corner = 0; corner <= 5; corner++) {
            is("give on foot at " + corner, t.give(corner, 2), corner + 1);
        }
        is("give with a cart of one that is given on foot", t.give(2, 1), NOT_POSSIBLE);
        is("it stays", t.houseOf(2, 3), 2);
        says("A house is given to one carrier or to none.");
        is("given to another", t.give(0, 0), 1);
        is("houses of the one before", t.carrierOf(2, 3), 5);
        is("given to none", t.giveNone(0), 0);
        is("houses of none", t.count(5), 1);
        is("given to none again", t.giveNone(0), NOT_POSSIBLE);
    }

    private static void order() {
        says("the corners from the depot on, each corner ahead of those beyond it");
        PaperRounds chain = new PaperRounds();
        for (int corner = 1; corner < 20; corner++) {
            chain.corner(corner - 1, 1, 100 - corner, 0);
        }
        chain.carrier(0, 500);
        for (int house = 0; house < 20; house++) {
            chain.house(19 - house, 1, 0);
            chain.give(house, 0);
        }
        for (int index = 0; index < 20; index++) {
            is("roundAt of a chain " + index, chain.roundAt(0, index), 19 - index);
        }
        is("roundAt of a chain at its end", chain.roundAt(0, 20), NOT_FOUND);
        says("all that are beyond one street together; of those with the same corner ahead, the lower one first");
        PaperRounds t = new PaperRounds();
        int[] ahead = {0, 0, 0, 2, 1, 2, 1, 4, 3, 5, 8};
        for (int corner = 1; corner <= ahead.length; corner++) {
            t.corner(ahead[corner - 1], 1, corner % 2 * 50, 0);
        }
        t.carrier(0, 500);
        // 0; 1 with 5 (10) and 7; 2 with 4 (8 with 11) and 6; 3 with 9.
        int[] corners = {0, 1, 5, 10, 7, 2, 4, 8, 11, 6, 3, 9};
        for (int house = 0; house < 12; house++) {
            t.house(house * 5 % 12, 1, 0);
            t.give(house, 0);
        }
        for (int index = 0; index < 12; index++) {
            is("corner of roundAt " + index, t.houseOf(t.roundAt(0, index), 0), corners[index]);
        }
        says("houses of the same corner by their numbers");
        PaperRounds u = new PaperRounds();
        u.corner(0, 1, 0, 0);
        u.carrier(0, 500);
        for (int house = 0; house < 24; house++) {
            u.house(1, 1, 0);
        }
        for (int house = 23; house >= 0; house--) {
            u.give(house, 0);
        }
        for (int index = 0; index < 24; index++) {
            is("roundAt of one corner " + index, u.roundAt(0, index), index);
        }
        is("roundAt at its end", u.roundAt(0, 24), NOT_FOUND);
    }

    private static void accountsAre(PaperRounds t, int delivered, int paused, int byDogs, int tooHeavy, int lost) {
        int[] wanted = {delivered + paused + byDogs + tooHeavy + lost, delivered, paused, byDogs, tooHeavy, lost};
        for (int what = 0; what <= 5; what++) {
            is("account " + what + " on the day " + t.count(4), t.account(what), wanted[what]);
        }
    }

    private static void fateOfPapers() {
        says("A paper weighs the setting 1 on Sundays, and the setting 0 on other days.");
        PaperRounds w = roundOf(10, 5);
        w.set(0, 2);
        w.set(1, 1);
        is("as heavy as the limit on a Saturday", w.round(0, 5, 2), 5);
        is("light on a Sunday", w.round(0, 6, 2), 5);
        w.set(1, 3);
        is("heavier on a Sunday", w.round(0, 6, 2), 0);
        w.set(0, 3);
        is("heavier on a Saturday", w.round(0, 5, 2), 0);
        says("If it is paused, they are paused. Otherwise, if it is given to no carrier, they are lost.");
        PaperRounds t = new PaperRounds();
        t.house(0, 5, 0);
        t.carrier(0, 14);
        t.dog(0, 2, 0);
        t.biscuits(0, 2);
        t.pause(0, 0, 1);
        t.days(2);
        accountsAre(t, 0, 10, 0, 0, 0);
        is("complaints of a paused one", t.count(7), 0);
        t.days(1);
        accountsAre(t, 0, 10, 0, 0, 5);
        is("complaints of a lost one", t.count(7), 1);
        t.pause(0, 3, 4);
        t.give(0, 0);
        t.days(2);
        accountsAre(t, 0, 20, 0, 0, 5);
        says("If the papers of a house weigh more than the limit, they are returned as too heavy.");
        t.days(1);
        accountsAre(t, 0, 20, 0, 5, 5);
        is("returned papers of it", t.houseOf(0, 8), 5);
        is("complaints of a heavy one", t.count(7), 2);
        is("biscuits for the dog with papers too heavy", t.carrierOf(0, 2), 2);
        is("trips with papers too heavy", t.carrierOf(0, 4), 0);
        t.set(1, 2);
        t.days(1);
        accountsAre(t, 5, 20, 0, 5, 5);
        is("a biscuit on the Sunday, of the day 6", t.carrierOf(0, 2), 1);
        int[][] edges = {{15, 3, 5, 1}, {14, 3, 5, 0}, {10, 10, 1, 1}, {10, 11, 1, 0}, {500, 20, 5, 1}, {100, 20, 5, 1}, {99, 20, 5, 0}, {79, 20, 4, 0}};
        for (int[] edge : edges) {
            PaperRounds u = roundOf(edge[0], edge[2]);
            u.set(0, edge[1]);
            boolean settable = u.count(20) == edge[1];
            is("setting " + edge[1], settable ? 1 : 0, 1);
            is(edge[2] + " papers of " + edge[1] + " with a limit of " + edge[0], u.days(1), edge[3] * edge[2]);
            is("too heavy", u.account(4), (1 - edge[3]) * edge[2]);
        }
    }

    private static void trips() {
        says("they are loaded for the present trip, or, if this would weigh more than the limit then, for the next one");
        int[][] rounds = {
            // The limit, the trips of a week day, then the papers, each of a weight of 3.
            {12, 1, 2, 2}, {11, 2, 2, 2}, {12, 1, 4}, {12, 1, 1, 1, 1, 1}, {12, 2, 1, 1, 1, 1, 1}, {12, 3, 3, 4, 1},
            {12, 2, 3, 1, 4}, {12, 1, 2, 5, 2}, {12, 2, 5, 3, 5, 2, 5}, {12, 0, 5, 5}, {10, 3, 3, 3, 3}, {500, 1, 5, 5, 5, 5},
            {15, 3, 5, 5, 5}, {30, 2, 5, 5, 5}, {29, 3, 5, 5, 5}, {18, 2, 4, 2, 4, 2}, {17, 4, 4, 2, 4, 2}};
        for (int[] each : rounds) {
            int[] papers = new int[each.length - 2];
            System.arraycopy(each, 2, papers, 0, papers.length);
            PaperRounds t = roundOf(each[0], papers);
            String name = papers.length + " houses with a limit of " + each[0];
            is("round 0 of " + name, t.round(0, 0, 0), each[1]);
            is("round 1 of " + name, t.round(0, 0, 1), 2 * each[1]);
            t.days(1);
            is("trips of " + name, t.carrierOf(0, 4), each[1]);
            is("effort of " + name, t.carrierOf(0, 5), 2 * each[1]);
        }
        PaperRounds paused = roundOf(12, 2, 2, 2);
        paused.pause(1, 0, 0);
        is("trips without the paused one", paused.round(0, 0, 0), 1);
        is("trips the day after", paused.round(0, 1, 0), 2);
        PaperRounds most = new PaperRounds();
        most.carrier(0, 500);
        most.corner(0, 50, 0, 0);
        for (int house = 0; house < 24; house++) {
            most.house(1, 5, 0);
            most.give(house, 0);
        }
        most.set(0, 20);
        most.set(1, 50);
        is("5 houses of 100 a trip", most.round(0, 0, 0), 5);
        is("2 houses of 250 a trip on Sundays", most.round(0, 6, 0), 12);
        is("their effort", most.round(0, 6, 1), 12 * 100);
        PaperRounds each = new PaperRounds();
        each.carrier(0, 10);
        for (int house = 0; house < 24; house++) {
            each.house(0, 2, 0);
            each.give(house, 0);
        }
        is("a trip for each house", each.round(0, 0, 0), 24);
        says("a round of a day begins with the first trip");
        PaperRounds t = roundOf(12, 1);
        t.days(3);
        is("trips of three light days", t.carrierOf(0, 4), 3);
        PaperRounds none = roundOf(12);
        none.days(7);
        is("trips without houses", none.carrierOf(0, 4), 0);
    }

    private static void biscuits() {
        says("Where the dog is out, the carrier gives it a biscuit, if there is one left.");
        PaperRounds t = roundOf(500, 1, 2, 3);
        for (int house = 0; house < 3; house++) {
            t.dog(house, 2, 0);
        }
        t.biscuits(0, 2);
        is("two biscuits for three dogs", t.days(1), 3);
        is("biscuits", t.carrierOf(0, 2), 0);
        accountsAre(t, 3, 0, 3, 0, 0);
        is("no dog is out", t.days(1), 6);
        t.biscuits(0, 1);
        is("one biscuit", t.days(1), 1);
        t.biscuits(0, 4);
        is("a day without dogs takes no biscuit", t.days(1), 6);
        is("biscuits are kept", t.carrierOf(0, 2), 4);
        is("one is left", t.days(1), 6);
        is("biscuits", t.carrierOf(0, 2), 1);
        says("without a biscuit they are returned by the dog");
        PaperRounds u = roundOf(500, 2, 3);
        u.carrier(0, 500);
        u.give(1, 1);
        u.biscuits(1, 9);
        u.dog(0, 3, 0);
        u.dog(1, 3, 0);
        is("the biscuits of another do not help", u.days(1), 3);
        is("returned", u.houseOf(0, 8), 2);
        is("biscuits of the other", u.carrierOf(1, 2), 8);
        is("trips with what is returned", u.carrierOf(0, 4), 1);
        is("effort with what is returned", u.carrierOf(0, 5), 2);
        is("delivered by the carrier", u.carrierOf(0, 7), 0);
        says("biscuits go by the order of the round, not by the numbers of the houses");
        PaperRounds v = roundOf(500, 1);
        v.house(0, 4, 0);
        v.give(1, 0);
        v.dog(0, 2, 0);
        v.dog(1, 2, 0);
        v.biscuits(0, 1);
        is("the house at the depot comes first", v.days(1), 4);
    }

    private static void effort() {
        says("twice the length, and, if the corner is higher, (the difference) * (r + the weight) / r, otherwise the difference");
        int[][] slopes = {
            // The heights of a corner and of the one beyond it, then the slope of that street on foot and with a cart.
            {50, 50, 0, 0}, {50, 49, 1, 1}, {50, 0, 50, 50}, {100, 0, 100, 100}, {50, 51, 1, 1}, {50, 57, 9, 8}, {0, 100, 130, 115},
            {0, 0, 0, 0}, {99, 100, 1, 1}, {93, 100, 9, 8}};
        for (int[] slope : slopes) {
            PaperRounds t = new PaperRounds();
            t.corner(0, 1, slope[0], 0);
            t.corner(1, 50, slope[1], 0);
            t.carrier(0, 10);
            t.carrier(1, 10);
            t.house(2, 1, 0);
            t.give(0, 0);
            is("on foot from " + slope[0] + " to " + slope[1], t.round(0, 0, 1) - 2 - slope[0] * 13 / 10, 100 + slope[2]);
            t.give(0, 1);
            is("with a cart from " + slope[0] + " to " + slope[1], t.round(1, 0, 1) - 2 - slope[0] * 23 / 20, 100 + slope[3]);
        }
        says("the weight of what was loaded in this trip for houses beyond it");
        PaperRounds t = new PaperRounds();
        t.corner(0, 1, 10, 0);
        t.corner(1, 1, 20, 0);
        t.corner(1, 1, 30, 0);
        t.carrier(0, 30);
        t.house(0, 1, 0);
        t.house(1, 1, 0);
        t.house(2, 2, 0);
        t.house(3, 3, 0);
        for (int house = 0; house < 4; house++) {
            t.give(house, 0);
        }
        is("three streets", t.round(0, 0, 1), (2 + 10 * 28 / 10) + (2 + 10 * 16 / 10) + (2 + 20 * 19 / 10));
        t.set(0, 5);
        // 5 + 5 + 10 are one trip, 15 are the next one.
        is("in two trips", t.round(0, 0, 1), (2 + 10 * 25 / 10) + (2 + 10 * 20 / 10) + (2 + 10 * 25 / 10) + (2 + 20 * 25 / 10));
        t.dog(3, 2, 0);
        t.days(1);
        is("returned papers were loaded", t.carrierOf(0, 5), 27 + 22 + 27 + 52);
        t.dog(3, 0, 0);
        t.set(0, 20);
        // 20 at the depot alone are one trip of no street, 20 the next one; the others are too heavy.
        is("too heavy ones are not loaded", t.round(0, 1, 1), 2 + 10 * 30 / 10);
        is("trips", t.round(0, 1, 0), 2);
        PaperRounds together = new PaperRounds();
        together.corner(0, 1, 10, 0);
        together.carrier(0, 30);
        for (int house = 0; house < 3; house++) {
            together.house(1, 1 + house, 0);
            together.give(house, 0);
        }
        is("three houses of one corner", together.round(0, 0, 1), 2 + 10 * (10 + 18) / 10);
        says("the sum over all streets that have houses of this trip beyond them");
        t.pause(3, 2, 2);
        t.set(0, 3);
        is("not the street of the paused one", t.round(0, 2, 1), (2 + 10 * 19 / 10) + (2 + 10 * 16 / 10));
        t.giveNone(1);
        t.giveNone(2);
        is("the depot alone", t.round(0, 2, 1), 0);
        is("in a trip", t.round(0, 2, 0), 1);
    }

    // The highest hills, the heaviest papers and the longest streets there can be, on all days.
    private static void mostEffort() {
        says("the effort so far, when it is as great as it can be");
        PaperRounds t = new PaperRounds();
        for (int corner = 1; corner < 20; corner++) {
            t.corner(corner - 1, 50, corner % 2 * 100, 0);
        }
        t.carrier(0, 500);
        for (int house = 0; house < 24; house++) {
            t.house(19, 5, 500);
            t.give(house, 0);
        }
        t.set(0, 20);
        t.set(1, 50);
        // Ten streets go up by 100, nine down; five houses are a trip, the last one has four; on Sundays two are one.
        int heavy = 19 * 100 + 10 * (100 * (10 + 500) / 10) + 9 * 100;
        int light = 19 * 100 + 10 * (100 * (10 + 400) / 10) + 9 * 100;
        is("round of a week day", t.round(0, 0, 1), 4 * heavy + light);
        is("round of a Sunday", t.round(0, 6, 1), 12 * heavy);
        goTo(t, 1000);
        is("effort of 1000 days", t.carrierOf(0, 5), 858 * (4 * heavy + light) + 142 * 12 * heavy);
        is("which is", t.carrierOf(0, 5), 313897200);
        is("trips", t.carrierOf(0, 4), 858 * 5 + 142 * 12);
        is("tips", t.carrierOf(0, 6), 142 * 24 * 500);
        is("papers", t.account(0), 1000 * 24 * 5);
        says("An object is used for at most 512 calls after it has been made.");
        PaperRounds u = roundOf(500, 1);
        for (int call = 5; call <= 511; call++) {
            is("call " + call, u.days(1), 1);
        }
        is("call 512", u.count(4), 507);
    }

    private static void complaints() {
        says("A house whose papers are returned or lost complains once.");
        PaperRounds t = roundOf(24, 5);
        t.days(1);
        is("not with what was delivered", t.houseOf(0, 10), 0);
        t.dog(0, 2, 1);
        t.days(1);
        is("once with 5 papers returned by the dog", t.houseOf(0, 10), 1);
        t.biscuits(0, 1);
        t.dog(0, 2, 0);
        t.days(1);
        is("not with a biscuit", t.houseOf(0, 10), 1);
        t.set(0, 5);
        t.days(1);
        is("once with 5 papers too heavy", t.houseOf(0, 10), 2);
        t.giveNone(0);
        t.days(1);
        is("once with 5 papers lost", t.houseOf(0, 10), 3);
        t.pause(0, 5, 5);
        t.days(1);
        is("not with paused ones", t.houseOf(0, 10), 3);
        is("since the end of the last Sunday", t.houseOf(0, 11), 3);
        t.days(1);
        is("so far, with that of the Sunday", t.houseOf(0, 10), 4);
        is("none since its end", t.houseOf(0, 11), 0);
        t.days(3);
        is("three since then", t.houseOf(0, 11), 3);
        is("seven so far", t.houseOf(0, 10), 7);
        is("complaints of all", t.count(7), 7);
    }

    private static void tips() {
        says("its tip, if it has not complained since then, half of it, if it complained once, and otherwise nothing");
        int[] wanted = {101, 50, 0, 0, 0, 0, 0, 0};
        for (int lost = 0; lost <= 7; lost++) {
            PaperRounds t = new PaperRounds();
            t.house(0, 1, 101);
            t.carrier(0, 10);
            if (lost > 0) {
                t.days(lost);
            }
            t.give(0, 0);
            if (lost < 7) {
                t.days(7 - lost);
            }
            is("tip after " + lost + " lost", t.carrierOf(0, 6), wanted[lost]);
            t.days(7);
            is("tip of a good week after it", t.carrierOf(0, 6), wanted[lost] + 101);
        }
        says("each house gives its carrier (if it has one then) its tip");
        PaperRounds t = new PaperRounds();
        t.carrier(0, 10);
        t.carrier(0, 10);
        t.house(0, 1, 500);
        t.house(0, 1, 0);
        t.house(0, 1, 7);
        t.give(0, 0);
        t.give(1, 0);
        t.give(2, 0);
        t.days(6);
        is("none ahead of the end of the Sunday", t.count(8), 0);
        t.give(0, 1);
        t.giveNone(2);
        t.days(1);
        is("to the one who has it then", t.carrierOf(1, 6), 500);
        is("not to the one who had it, and nothing of a tip of 0", t.carrierOf(0, 6), 0);
        t.give(2, 0);
        is("no tip later for the week before", t.count(8), 500);
        t.days(7);
        is("of the next week", t.carrierOf(0, 6), 7);
        is("of the other", t.carrierOf(1, 6), 1000);
        is("of all", t.count(8), 1007);
    }

    private static void tipsAtTheEdgesOfTheWeek() {
        says("each house to which something was delivered since the end of the Sunday before");
        int[][] pauses = {
            // The first and last days of two pauses, and the tips of the three weeks from 0 to 20.
            {0, 5, 20, 20, 300}, {1, 6, 8, 13, 300}, {0, 6, 20, 20, 200}, {7, 13, 20, 20, 200}, {6, 12, 20, 20, 300},
            {6, 13, 20, 20, 200}, {7, 12, 14, 19, 300}, {8, 13, 14, 19, 300}, {7, 14, 16, 20, 200}, {0, 13, 15, 20, 100},
            {0, 13, 14, 19, 100}, {0, 20, 0, 0, 0}, {0, 6, 14, 20, 100}, {5, 14, 20, 20, 200}, {0, 12, 13, 20, 0}};
        for (int[] p : pauses) {
            PaperRounds t = roundOf(500, 1);
            t.pause(0, p[0], p[1]);
            t.pause(0, p[2], p[3]);
            t.days(21);
            is("tips with pauses " + p[0] + " to " + p[1] + ", " + p[2] + " to " + p[3], t.count(8), p[4]);
        }
        says("complaints since the end of the Sunday before");
        int[][] dogs = {
            // Days of two complaints, and the tips of the two weeks from 0 to 13.
            {0, 1, 100}, {0, 6, 100}, {6, 7, 100}, {7, 13, 100}, {5, 6, 100}, {6, 13, 100}, {0, 13, 100}, {0, 0, 150}, {6, 6, 150},
            {7, 7, 150}, {13, 13, 150}};
        for (int[] d : dogs) {
            PaperRounds t = roundOf(500, 1);
            for (int day = 0; day < 14; day++) {
                t.dog(0, day == d[0] || day == d[1] ? 2 : 0, day % 2);
                t.days(1);
            }
            is("tips with complaints on " + d[0] + " and " + d[1], t.count(8), d[2]);
        }
        says("a house that was added within the week gives its tip too");
        PaperRounds t = roundOf(500);
        t.days(6);
        t.house(0, 1, 30);
        t.give(0, 0);
        t.days(1);
        is("tip of its first Sunday", t.count(8), 30);
        says("a week that is full of returned papers gives nothing, even if one complaint would be forgiven");
        PaperRounds u = roundOf(500, 1);
        u.pause(0, 0, 5);
        u.dog(0, 2, 0);
        u.days(7);
        is("one complaint, nothing delivered", u.houseOf(0, 10), 1);
        is("no tip", u.count(8), 0);
    }

    private static void settings() {
        says("0 the weight of a paper (1 to 20; 3), 1 its weight on Sundays (1 to 50; 8)");
        PaperRounds t = roundOf(15, 5);
        is("weight at first", t.count(20), 3);
        is("on Sundays at first", t.count(21), 8);
        is("5 papers of 3", t.round(0, 0, 2), 5);
        PaperRounds less = roundOf(14, 5);
        is("5 papers of 3 with a limit below", less.round(0, 0, 2), 0);
        PaperRounds sunday = roundOf(40, 5);
        is("5 papers of 8", sunday.round(0, 6, 2), 5);
        PaperRounds lessSunday = roundOf(39, 5);
        is("5 papers of 8 with a limit below", lessSunday.round(0, 6, 2), 0);
        int[][] sets = {{0, 1, 3}, {0, 20, 1}, {1, 1, 8}, {1, 50, 1}, {0, 0, INVALID}, {0, 21, INVALID}, {1, 0, INVALID}, {1, 51, INVALID},
            {0, 50, INVALID}, {1, 21, 50}, {0, 3, 20}};
        for (int[] set : sets) {
            is("set " + set[0] + " " + set[1], t.set(set[0], set[1]), set[2]);
        }
        is("the one", t.count(20), 3);
        is("the other", t.count(21), 21);
    }

    // ---- texts

    private static PaperRounds townOfTexts() {
        PaperRounds t = new PaperRounds();
        t.house(0, 1, 0);
        t.house(0, 1, 0);
        t.carrier(0, 20);
        t.give(1, 0);
        return t;
    }

    private static void faultIs(PaperRounds t, String text, int position, int reason, int cause) {
        write(t, text);
        is("fault 0 of " + text, t.fault(0), position);
        is("fault 1 of " + text, t.fault(1), reason);
        is("fault 2 of " + text, t.fault(2), cause);
    }

    private static void noFault(PaperRounds t, String text) {
        faultIs(t, text, NOT_FOUND, NOT_FOUND, NOT_FOUND);
    }

    private static void texts() {
        says("orders, each followed by ';'");
        String[] orders = {"p0,1,2;", "g0,0;", "n1;", "b0,5;", "d3;", "p001,010,100;", "g000,000;", "n001;", "b00,099;", "d031;"};
        for (String order : orders) {
            noFault(townOfTexts(), order);
            noFault(townOfTexts(), "d1;" + order);
            for (int cut = 1; cut < order.length(); cut++) {
                faultIs(townOfTexts(), order.substring(0, cut), 0, 1, NOT_FOUND);
                faultIs(townOfTexts(), "d1;" + order.substring(0, cut), 3, 1, NOT_FOUND);
            }
            for (int at = 0; at < order.length(); at++) {
                for (char sign : new char[] {' ', '.', ':', '/', '-', '+', 'P', 'x', '~'}) {
                    String bad = order.substring(0, at) + sign + order.substring(at + 1);
                    faultIs(townOfTexts(), bad, 0, 1, NOT_FOUND);
                }
                faultIs(townOfTexts(), order.substring(0, at) + ' ' + order.substring(at), 0, 1, NOT_FOUND);
            }
            faultIs(townOfTexts(), order + ";", order.length(), 1, NOT_FOUND);
            faultIs(townOfTexts(), order + " ", order.length(), 1, NOT_FOUND);
            faultIs(townOfTexts(), ";" + order, 0, 1, NOT_FOUND);
        }
        for (int sign = 32; sign <= 126; sign++) {
            if ("pgnbd".indexOf(sign) < 0) {
                faultIs(townOfTexts(), (char) sign + "0;", 0, 1, NOT_FOUND);
            }
        }
        says("numbers of 1 to 3 digits, zeros in front allowed");
        noFault(townOfTexts(), "d1;");
        noFault(townOfTexts(), "d01;");
        noFault(townOfTexts(), "d001;");
        String[] bad = {"d;", "d0001;", "d0000;", "d1000;", "p,1,2;", "p0,,2;", "p0,1,;", "p0000,1,2;", "p0,0001,2;", "p0,1,0002;",
            "g,0;", "g0,;", "g0000,0;", "g0,0000;", "n;", "n0001;", "b,5;", "b0,;", "b0000,5;", "b0,0005;",
            "p0,1;", "p0;", "p;", "p0,1,2,3;", "g0;", "g;", "g0,0,0;", "n0,0;", "n1,", "b0;", "b;", "b0,5,5;", "d1,1;", "d1,"};
        for (String text : bad) {
            faultIs(townOfTexts(), text, 0, 1, NOT_FOUND);
        }
        noFault(townOfTexts(), "p0,000,999;p1,999,999;");
        faultIs(townOfTexts(), "d999;", 0, 2, INVALID);
        faultIs(townOfTexts(), "b0,999;", 0, 2, INVALID);
        faultIs(townOfTexts(), "n999;", 0, 2, INVALID);
        faultIs(townOfTexts(), "g999,0;", 0, 2, INVALID);
        faultIs(townOfTexts(), "g0,999;", 0, 2, INVALID);
        faultIs(townOfTexts(), "p999,1,2;", 0, 2, INVALID);
        PaperRounds t = townOfTexts();
        write(t, "b0,09;b0,010;b0,1;");
        is("play", t.play(), 3);
        is("a zero in front is nothing but that", t.carrierOf(0, 2), 20);
    }

    private static void textsDone() {
        says("the position of the first character of the first order that is not possible, when those ahead of it are done");
        faultIs(townOfTexts(), "g0,0;g0,0;", 5, 2, NOT_POSSIBLE);
        faultIs(townOfTexts(), "n1;n1;", 3, 2, NOT_POSSIBLE);
        faultIs(townOfTexts(), "n0;g0,0;", 0, 2, NOT_POSSIBLE);
        noFault(townOfTexts(), "g0,0;n0;g0,0;n0;");
        noFault(townOfTexts(), "n1;g1,0;");
        faultIs(townOfTexts(), "d5;p0,4,9;", 3, 2, INVALID);
        noFault(townOfTexts(), "d5;p0,5,9;");
        noFault(townOfTexts(), "p0,4,9;d5;");
        faultIs(townOfTexts(), "b0,99;b0,99;b0,99;b0,99;b0,99;b0,5;b0,1;", 35, 2, LIMIT);
        faultIs(townOfTexts(), "d31;d0;x", 4, 2, INVALID);
        faultIs(townOfTexts(), "d31;x;d0;", 4, 1, NOT_FOUND);
        PaperRounds dog = townOfTexts();
        dog.dog(1, 2, 0);
        for (int i = 0; i < 5; i++) {
            dog.biscuits(0, 99);
        }
        dog.biscuits(0, 5);
        faultIs(dog, "b0,1;", 0, 2, LIMIT);
        noFault(dog, "d1;b0,1;");
        faultIs(dog, "d1;b0,2;", 3, 2, LIMIT);
        PaperRounds late = townOfTexts();
        goTo(late, 969);
        noFault(late, "d31;");
        faultIs(late, "d31;d1;", 4, 2, LIMIT);
        faultIs(late, "d1;d31;", 3, 2, LIMIT);
        faultIs(late, "d31;p0,999,999;", 4, 2, INVALID);
        noFault(late, "d30;p0,999,999;");
        PaperRounds full = townOfTexts();
        for (int pause = 0; pause < 29; pause++) {
            full.pause(0, 0, 0);
        }
        noFault(full, "p1,0,0;");
        faultIs(full, "p1,0,0;p1,0,0;", 7, 2, LIMIT);
        faultIs(full, "p1,0,0;p2,0,0;", 7, 2, INVALID);
        says("a text of at most 60 characters");
        String most = "d1;".repeat(20);
        noFault(townOfTexts(), most);
        faultIs(townOfTexts(), "d1;".repeat(19) + "d11", 57, 1, NOT_FOUND);
        faultIs(townOfTexts(), "d1;".repeat(19) + "n0;", 57, 2, NOT_POSSIBLE);
        faultIs(townOfTexts(), "d1;".repeat(19) + "p0,", 57, 1, NOT_FOUND);
        faultIs(townOfTexts(), ";".repeat(60), 0, 1, NOT_FOUND);
        says("what is read of a text ends with it, also if a longer one stood there before");
        PaperRounds t = townOfTexts();
        write(t, most);
        faultIs(t, "d1", 0, 1, NOT_FOUND);
        faultIs(t, "d1;d", 3, 1, NOT_FOUND);
        noFault(t, "d1;");
        noFault(t, "");
        says("initially empty");
        is("length of the text of a new object", new PaperRounds().count(10), 0);
        is("its fault", new PaperRounds().fault(1), NOT_FOUND);
        is("orders in it", new PaperRounds().play(), 0);
    }

    // ---- changes

    private static PaperRounds townOfChanges() {
        PaperRounds t = new PaperRounds();
        t.house(0, 1, 0);
        t.carrier(0, 20);
        t.undo();
        t.undo();
        t.house(0, 1, 0);
        t.carrier(0, 20);
        return t;
    }

    private static int change(PaperRounds t, int kind) {
        switch (kind) {
            case 0: return t.corner(0, 1, 0, 0);
            case 1: return t.house(0, 1, 0);
            case 2: return t.dog(0, 2, 0);
            case 3: return t.pause(0, 0, 0);
            case 4: return t.carrier(0, 10);
            case 5: return t.give(0, 0);
            case 6: return t.biscuits(0, 1);
            case 7: return t.days(1);
            case 8: return t.set(0, 3);
            case 9: return t.play();
            case 10: return t.dog(0, 0, 0);
            default: return t.set(1, 8);
        }
    }

    private static void changes() {
        says("The changes are the calls of corner, house, dog, pause, carrier, give, giveNone, biscuits, days, set and play.");
        for (int kind = 0; kind <= 11; kind++) {
            PaperRounds t = townOfChanges();
            is("states ahead of " + kind, t.count(9), 2);
            is("change " + kind, change(t, kind) < 0 ? 1 : 0, 0);
            is("states after change " + kind, t.count(9), 3);
        }
        PaperRounds g = townOfChanges();
        g.give(0, 0);
        is("giveNone", g.giveNone(0), 0);
        is("states after give and giveNone", g.count(9), 4);
        says("no other call is a change");
        PaperRounds t = townOfChanges();
        t.type(100);
        t.type(49);
        t.fault(0);
        t.clearText();
        t.cornerOf(0, 2);
        t.houseOf(0, 0);
        t.shareBits(0);
        t.meanBits();
        t.carrierOf(0, 0);
        t.pauseOf(0, 0);
        t.roundAt(0, 0);
        t.round(0, 0, 0);
        t.lightest(0, 0);
        t.nextDog(0);
        t.account(0);
        is("states", t.count(9), 2);
        is("undo", t.undo(), 1);
        is("is none either", t.count(9), 1);
        says("each change records everything before it but the text");
        PaperRounds u = townOfChanges();
        write(u, "d1;");
        u.set(0, 9);
        write(u, "d1;d1;");
        u.undo();
        is("the text stays in an undo", u.count(10), 6);
        is("and is that of now", u.play(), 2);
        u.clearText();
        u.undo();
        is("an empty one too", u.count(10), 0);
    }

    private static void states() {
        says("A history of at most 4 states is kept; if there are 5 states then, the oldest one is dropped.");
        PaperRounds t = new PaperRounds();
        for (int weight = 1; weight <= 9; weight++) {
            is("states ahead of change " + weight, t.count(9), Math.min(4, weight - 1));
            t.set(0, weight);
            is("states after change " + weight, t.count(9), Math.min(4, weight));
        }
        for (int left = 3; left >= 0; left--) {
            is("undo", t.undo(), left);
            is("weight", t.count(20), 5 + left);
        }
        is("undo", t.undo(), NOT_POSSIBLE);
        is("weight", t.count(20), 5);
        for (int round = 0; round < 12; round++) {
            PaperRounds u = new PaperRounds();
            for (int weight = 1; weight <= round; weight++) {
                u.set(0, weight);
            }
            int less = Math.min(round % 5, u.count(9));
            for (int i = 0; i < less; i++) {
                u.undo();
            }
            int base = u.count(20);
            int kept = u.count(9);
            u.set(0, 18);
            u.set(0, 19);
            is("states of round " + round, u.count(9), Math.min(4, kept + 2));
            u.undo();
            is("the one before of round " + round, u.count(20), 18);
            u.undo();
            is("the two before of round " + round, u.count(20), base);
            is("states left of round " + round, u.count(9), Math.min(4, kept + 2) - 2);
            int left = u.count(9);
            for (int i = 1; i <= left; i++) {
                u.undo();
                int want = base - i == 0 ? 3 : base - i;
                is("back by " + i + " in round " + round, u.count(20), want);
            }
        }
        says("an undone state is gone: there is no way forth again");
        PaperRounds v = new PaperRounds();
        v.set(0, 10);
        v.set(0, 11);
        v.undo();
        v.set(1, 33);
        is("undo", v.undo(), 1);
        is("weight on Sundays", v.count(21), 8);
        is("weight", v.count(20), 10);
        is("undo", v.undo(), 0);
        is("weight", v.count(20), 3);
    }

    // ---- promises

    private static void newObject() {
        says("Creates a town of the depot alone, on the day 0.");
        PaperRounds t = new PaperRounds();
        int[] counts = {1, 0, 0, 0, 0, 0, 0, 0, 0, 0, 0};
        for (int what = 0; what <= 10; what++) {
            is("count " + what, t.count(what), counts[what]);
        }
        is("days of a town without houses", t.days(31), 0);
        accountsAre(t, 0, 0, 0, 0, 0);
        PaperRounds other = new PaperRounds();
        other.house(0, 1, 0);
        is("two objects have towns of their own", t.count(1), 0);
        is("and days", other.count(4), 0);
    }

    private static void answersOfChanges() {
        says("Returns its number (of a corner, a house, a pause, a carrier), from the first free one on.");
        PaperRounds t = new PaperRounds();
        is("corner", t.corner(0, 1, 0, 0), 1);
        is("corner", t.corner(0, 1, 0, 0), 2);
        is("house", t.house(0, 1, 0), 0);
        is("house", t.house(2, 1, 0), 1);
        is("pause", t.pause(1, 0, 0), 0);
        is("pause", t.pause(1, 0, 0), 1);
        is("carrier", t.carrier(0, 10), 0);
        is("carrier", t.carrier(1, 10), 1);
        t.undo();
        is("carrier after an undo", t.carrier(0, 10), 1);
        says("Gives a house a dog in place of the one that it has, or takes it away; 0 without one.");
        is("dog", t.dog(0, 9, 8), 0);
        is("dog", t.dog(0, 2, 3), 9);
        is("dog in its place alone", t.nextDog(0), 1);
        is("dog", t.dog(0, 0, 0), 2);
        is("dog", t.dog(0, 0, 8), 0);
        is("none", t.nextDog(0), NOT_FOUND);
        says("Returns how many houses this carrier has then.");
        is("give", t.give(0, 1), 1);
        is("give", t.give(1, 1), 2);
        is("give", t.give(0, 0), 1);
        is("give", t.give(0, 1), 2);
        says("Returns the carrier who had it.");
        is("giveNone", t.giveNone(0), 1);
        is("giveNone", t.giveNone(1), 1);
        is("giveNone", t.giveNone(1), NOT_POSSIBLE);
        says("Returns the biscuits then.");
        is("biscuits", t.biscuits(1, 99), 99);
        is("biscuits", t.biscuits(1, 1), 100);
        is("biscuits", t.biscuits(0, 1), 1);
    }

    private static void answersOfDays() {
        says("Returns how many papers are delivered on them.");
        PaperRounds t = roundOf(500, 5, 1);
        is("one day", t.days(1), 6);
        is("31 days, not those before", t.days(31), 186);
        t.dog(0, 3, 0);
        t.dog(1, 3, 0);
        is("a day of no dog", t.days(1), 6);
        is("a day of dogs", t.days(1), 0);
        t.pause(0, 34, 34);
        is("a day of a pause", t.days(1), 1);
        says("LIMIT_REACHED if the present day would be greater than 1000");
        goTo(t, 969);
        is("32 days", t.days(32), INVALID);
        is("31 days", t.days(31) < 0 ? 1 : 0, 0);
        is("the day 1000", t.count(4), 1000);
        is("one more", t.days(1), LIMIT);
        says("on the day 1000 the town can still be told and changed");
        is("paused", t.houseOf(0, 5), 0);
        is("houses paused", t.count(6), 0);
        is("roundAt", t.roundAt(0, 1), 1);
        is("house", t.house(0, 1, 1), 2);
        is("give", t.give(2, 0), 3);
        is("nextDog", t.nextDog(0), NOT_FOUND);
        is("undo", t.undo(), 3);
        is("undo", t.undo(), 2);
        is("undo", t.undo(), 1);
        is("the day before", t.count(4), 969);
        says("days by days are the same as days at once");
        PaperRounds once = roundOf(20, 5, 2, 3);
        PaperRounds each = roundOf(20, 5, 2, 3);
        once.dog(1, 4, 1);
        each.dog(1, 4, 1);
        once.biscuits(0, 3);
        each.biscuits(0, 3);
        int sum = 0;
        for (int day = 0; day < 31; day++) {
            sum += each.days(1);
        }
        is("days", once.days(31), sum);
        for (int what = 0; what <= 5; what++) {
            is("account " + what, once.account(what), each.account(what));
        }
        for (int what = 0; what <= 7; what++) {
            is("carrierOf 0 " + what, once.carrierOf(0, what), each.carrierOf(0, what));
        }
    }

    private static void answersOfPlaces() {
        says("NOT_FOUND for 0, 1 and 3 of the depot.");
        PaperRounds t = new PaperRounds();
        int[] depot = {NOT_FOUND, NOT_FOUND, 0, NOT_FOUND, 0, 0, 1};
        for (int what = 0; what <= 6; what++) {
            is("cornerOf 0 " + what, t.cornerOf(0, what), depot[what]);
        }
        says("4: how far it is from the depot; 5: the houses at it and beyond it; 6: 1 if carts can come to it");
        for (int corner = 1; corner < 20; corner++) {
            t.corner(corner - 1, 50, 100, corner == 19 ? 1 : 0);
        }
        for (int house = 0; house < 24; house++) {
            t.house(house < 20 ? house : 19, 1, 0);
        }
        for (int corner = 0; corner < 20; corner++) {
            is("how far is " + corner, t.cornerOf(corner, 4), 50 * corner);
            is("houses from " + corner, t.cornerOf(corner, 5), 24 - corner);
            is("carts at " + corner, t.cornerOf(corner, 6), corner == 19 ? 0 : 1);
        }
        says("NOT_FOUND for 3 without a carrier, for 4 without a dog.");
        is("houseOf 23 3", t.houseOf(23, 3), NOT_FOUND);
        is("houseOf 23 4", t.houseOf(23, 4), NOT_FOUND);
        is("houseOf 23 0", t.houseOf(23, 0), 19);
        t.carrier(0, 10);
        t.give(23, 0);
        t.dog(23, 2, 0);
        is("houseOf 23 3", t.houseOf(23, 3), 0);
        is("houseOf 23 4", t.houseOf(23, 4), 2);
        says("Returns a house in the order of the round of a carrier, whether it is paused or not.");
        t.pause(23, 0, 999);
        is("roundAt 0", t.roundAt(0, 0), 23);
        is("roundAt 1", t.roundAt(0, 1), NOT_FOUND);
        t.give(0, 0);
        is("roundAt 0", t.roundAt(0, 0), 0);
        is("roundAt 1", t.roundAt(0, 1), 23);
        is("roundAt 2", t.roundAt(0, 2), NOT_FOUND);
        is("roundAt 24", t.roundAt(0, 24), NOT_FOUND);
        t.set(0, 11);
        is("too heavy ones are in it too", t.roundAt(0, 1), 23);
        t.giveNone(0);
        t.giveNone(23);
        is("roundAt 0 of none", t.roundAt(0, 0), NOT_FOUND);
    }

    private static void shares() {
        says("NOT_FOUND if there were no such papers.");
        PaperRounds t = new PaperRounds();
        t.house(0, 5, 0);
        is("a new house", t.shareBits(0), NOT_FOUND);
        t.pause(0, 0, 30);
        t.days(31);
        is("31 days of pauses", t.shareBits(0), NOT_FOUND);
        t.days(1);
        says("the papers of a house delivered so far, divided by all its papers that were not paused");
        is("0 of 5", t.shareBits(0), Float.floatToIntBits(0.0f));
        t.carrier(0, 500);
        t.give(0, 0);
        t.days(1);
        is("5 of 10", t.shareBits(0), Float.floatToIntBits(0.5f));
        t.days(1);
        is("10 of 15", t.shareBits(0), Float.floatToIntBits(10.0f / 15.0f));
        PaperRounds all = roundOf(500, 1);
        all.days(1);
        is("1 of 1", all.shareBits(0), Float.floatToIntBits(1.0f));
        goTo(all, 999);
        all.giveNone(0);
        all.days(1);
        is("999 of 1000", all.shareBits(0), Float.floatToIntBits(999.0f / 1000.0f));
        PaperRounds one = roundOf(500, 5);
        one.days(1);
        one.giveNone(0);
        goTo(one, 1000);
        is("5 of 5000", one.shareBits(0), Float.floatToIntBits(5.0f / 5000.0f));
        PaperRounds mixed = roundOf(39, 5, 3);
        mixed.dog(0, 9, 4);
        mixed.dog(1, 5, 2);
        for (int day = 0; day < 50; day++) {
            mixed.days(1);
            for (int house = 0; house < 2; house++) {
                int delivered = mixed.houseOf(house, 6);
                int due = delivered + mixed.houseOf(house, 8) + mixed.houseOf(house, 9);
                is(delivered + " of " + due, mixed.shareBits(house), Float.floatToIntBits((float) delivered / (float) due));
            }
        }
    }

    private static void means() {
        says("the mean of the shares of all houses that have one; NOT_FOUND if no house has one");
        PaperRounds t = new PaperRounds();
        is("no house", t.meanBits(), NOT_FOUND);
        t.house(0, 1, 0);
        is("a new house", t.meanBits(), NOT_FOUND);
        t.pause(0, 0, 4);
        t.days(1);
        is("a paused house", t.meanBits(), NOT_FOUND);
        t.house(0, 1, 0);
        t.days(1);
        is("one that has one, of 0", t.meanBits(), Float.floatToIntBits(0.0f));
        t.carrier(0, 500);
        t.give(1, 0);
        t.days(1);
        is("one that has one", t.meanBits(), Float.floatToIntBits(0.5f));
        t.house(0, 1, 0);
        t.give(2, 0);
        t.days(1);
        is("two that have one", t.meanBits(), Float.floatToIntBits((float) (((double) (2.0f / 3.0f) + 1.0) / 2.0)));
        says("added up in doubles, divided in doubles, and this is made a float");
        PaperRounds u = new PaperRounds();
        u.carrier(0, 500);
        int unlike = 0;
        for (int house = 0; house < 24; house++) {
            u.house(0, 1 + house % 5, 0);
            u.give(house, 0);
            u.dog(house, 2 + house % 8, house % 9);
            u.days(1 + house % 3);
            double sum = 0.0;
            float floats = 0.0f;
            for (int each = 0; each <= house; each++) {
                float share = (float) u.houseOf(each, 6)
                    / (float) (u.houseOf(each, 6) + u.houseOf(each, 8));
                sum += share;
                floats += share;
            }
            is("mean of " + (house + 1), u.meanBits(), Float.floatToIntBits((float) (sum / (house + 1))));
            unlike += (float) (sum / (house + 1)) == floats / (house + 1) ? 0 : 1;
            if (house % 6 == 5) {
                u = again(u, house);
            }
        }
        is("do some means show if they are added up in floats", unlike > 3 ? 1 : 0, 1);
    }

    // An object is used for 512 calls alone, so the same town is made anew.
    private static PaperRounds again(PaperRounds old, int last) {
        PaperRounds u = new PaperRounds();
        u.carrier(0, 500);
        for (int house = 0; house <= last; house++) {
            u.house(0, 1 + house % 5, 0);
            u.give(house, 0);
            u.dog(house, 2 + house % 8, house % 9);
            u.days(1 + house % 3);
        }
        is("the same town", u.meanBits(), old.meanBits());
        return u;
    }

    private static void forecasts() {
        says("Tells what a round would be on a day, with houses, dogs, pauses and settings as they are now.");
        PaperRounds t = roundOf(30, 5, 5);
        t.dog(0, 7, 6);
        is("dogs on the day 6", t.round(0, 6, 3), 0);
        t.set(1, 3);
        is("dogs on the day 6, not too heavy", t.round(0, 6, 3), 1);
        is("trips with 30", t.round(0, 6, 0), 1);
        t.set(1, 4);
        is("trips with 40", t.round(0, 6, 0), 2);
        is("papers", t.round(0, 6, 2), 10);
        t.pause(0, 6, 6);
        is("dogs of a paused one", t.round(0, 6, 3), 0);
        is("papers without a paused one", t.round(0, 6, 2), 5);
        is("dogs a week after", t.round(0, 13, 3), 1);
        t.giveNone(1);
        is("papers a week after", t.round(0, 13, 2), 5);
        says("3: the houses where the dog is out, of those whose papers are loaded; with or without a biscuit");
        t.biscuits(0, 2);
        is("dogs with biscuits", t.round(0, 13, 3), 1);
        is("biscuits are not given", t.carrierOf(0, 2), 2);
        says("a round of a day without houses is empty");
        t.giveNone(0);
        for (int what = 0; what <= 3; what++) {
            is("round 0 13 " + what, t.round(0, 13, what), 0);
        }
        says("what would be comes so, if nothing changes");
        PaperRounds u = roundOf(20, 5, 2, 3, 4);
        u.dog(2, 3, 1);
        u.pause(1, 4, 9);
        u.set(0, 4);
        u.set(1, 5);
        int trips = 0;
        int efforts = 0;
        for (int day = 0; day < 31; day++) {
            trips += u.round(0, day, 0);
            efforts += u.round(0, day, 1);
        }
        u.days(31);
        is("trips", u.carrierOf(0, 4), trips);
        is("efforts", u.carrierOf(0, 5), efforts);
    }

    private static void lightest() {
        says("the carrier whose effort would become greater by the least, of several the lowest");
        PaperRounds t = new PaperRounds();
        t.corner(0, 10, 0, 0);
        t.corner(1, 1, 0, 0);
        t.house(2, 1, 0);
        t.house(1, 1, 0);
        t.carrier(0, 100);
        t.carrier(0, 100);
        t.carrier(0, 100);
        is("all alike", t.lightest(0, 0), 0);
        t.give(1, 2);
        is("the one who goes there", t.lightest(0, 0), 2);
        t.pause(1, 3, 3);
        is("who does not go that day", t.lightest(0, 3), 0);
        t.give(1, 1);
        is("another one", t.lightest(0, 0), 1);
        t.giveNone(1);
        t.give(0, 0);
        is("of the others the lowest", t.lightest(0, 0), 1);
        says("less by 1 is less");
        PaperRounds u = new PaperRounds();
        u.corner(0, 1, 10, 0);
        u.house(1, 1, 0);
        u.house(1, 1, 0);
        u.carrier(0, 100);
        u.carrier(0, 100);
        u.give(0, 0);
        // Alone: 2 + 10 * 13 / 10; with another: 10 * 16 / 10 - 10 * 13 / 10.
        is("3 is less than 15", u.lightest(1, 0), 0);
        PaperRounds v = new PaperRounds();
        v.corner(0, 1, 10, 0);
        v.house(1, 2, 0);
        v.house(1, 1, 0);
        v.carrier(0, 10);
        v.carrier(1, 10);
        v.give(0, 0);
        v.set(0, 4);
        // A trip more on foot: 2 + 10 * 14 / 10 = 16; one with a cart: 2 + 10 * 24 / 20 = 14.
        is("14 is less than 16", v.lightest(1, 0), 1);
        v.set(0, 3);
        is("6 + 3 are one trip", v.lightest(1, 0), 0);
    }

    private static void lightestLeftOut() {
        says("the one who has it now and those who cannot reach it are left out; NOT_FOUND if there is none");
        PaperRounds t = new PaperRounds();
        t.corner(0, 1, 0, 1);
        t.house(1, 1, 0);
        is("no carriers", t.lightest(0, 0), NOT_FOUND);
        t.carrier(1, 100);
        is("a cart", t.lightest(0, 0), NOT_FOUND);
        t.carrier(0, 100);
        is("one on foot", t.lightest(0, 0), 1);
        t.give(0, 1);
        is("who has it", t.lightest(0, 0), NOT_FOUND);
        t.carrier(0, 10);
        is("another one on foot", t.lightest(0, 0), 2);
        t.give(0, 2);
        is("the other way round", t.lightest(0, 0), 1);
        says("it changes nothing");
        is("carrier", t.houseOf(0, 3), 2);
        is("houses", t.carrierOf(1, 3), 0);
        is("trips", t.carrierOf(1, 4), 0);
        says("on the days from the present one to 999");
        is("0", t.lightest(0, 0), 1);
        is("999", t.lightest(0, 999), 1);
        t.days(2);
        is("1 on the day 2", t.lightest(0, 1), INVALID);
        is("2 on the day 2", t.lightest(0, 2), 1);
    }

    private static void dogs() {
        says("the next day, from the present one on, on which the dog is out and the house is not paused");
        PaperRounds t = new PaperRounds();
        t.house(0, 1, 0);
        t.house(0, 1, 0);
        t.dog(0, 7, 0);
        is("the present day 0", t.nextDog(0), 0);
        t.pause(1, 0, 999);
        is("a pause of another", t.nextDog(0), 0);
        t.pause(0, 0, 0);
        is("paused on the present day", t.nextDog(0), 7);
        t.days(7);
        is("the present day 7", t.nextDog(0), 7);
        t.days(1);
        is("the day after", t.nextDog(0), 14);
        t.pause(0, 14, 20);
        is("paused up to the day before", t.nextDog(0), 21);
        t.pause(0, 21, 21);
        is("paused on that day too", t.nextDog(0), 28);
        says("NOT_FOUND if it has no dog, or there is no such day up to 999");
        is("no dog", t.nextDog(1), NOT_FOUND);
        t.dog(1, 2, 0);
        is("always paused", t.nextDog(1), NOT_FOUND);
        // 994 is the last day of the one of 7, 999 that of 9 and of odd ones.
        goTo(t, 994);
        is("the last one of 7", t.nextDog(0), 994);
        t.days(1);
        is("none of 7 after it", t.nextDog(0), NOT_FOUND);
        t.dog(0, 9, 0);
        is("999 of 9", t.nextDog(0), 999);
        t.dog(0, 8, 8);
        is("1000 of 8", t.nextDog(0), NOT_FOUND);
        t.dog(0, 2, 1);
        t.days(4);
        is("999 on the day 999", t.nextDog(0), 999);
        t.dog(0, 2, 0);
        is("no even day on it", t.nextDog(0), NOT_FOUND);
        t.dog(0, 2, 1);
        t.days(1);
        is("none on the day 1000", t.nextDog(0), NOT_FOUND);
    }

    private static void accounts() {
        says("0: of all bundles; 1: delivered; 2: paused; 3: returned by dogs; 4: returned as too heavy; 5: lost");
        PaperRounds t = new PaperRounds();
        t.carrier(0, 12);
        int[] papers = {1, 5, 2, 3, 4};
        for (int house = 0; house < 5; house++) {
            t.house(0, papers[house], 0);
        }
        t.give(0, 0);
        t.give(1, 0);
        t.give(2, 0);
        t.give(3, 0);
        t.dog(2, 2, 0);
        t.pause(3, 0, 0);
        t.days(1);
        accountsAre(t, 1, 3, 2, 5, 4);
        t.days(1);
        accountsAre(t, 1 + 6, 3, 2, 10, 8);
        t.undo();
        accountsAre(t, 1, 3, 2, 5, 4);
        t.giveNone(1);
        t.biscuits(0, 1);
        t.days(1);
        accountsAre(t, 1 + 6, 3, 2, 5, 4 + 9);
        says("the accounts are those of all days, up to the last one");
        PaperRounds u = roundOf(500, 5, 5);
        goTo(u, 1000);
        accountsAre(u, 10000, 0, 0, 0, 0);
        is("delivered by the carrier", u.carrierOf(0, 7), 10000);
        is("trips", u.carrierOf(0, 4), 1000);
        is("tips of 142 Sundays", u.carrierOf(0, 6), 142 * 200);
    }

    private static void counts() {
        says("5: houses given to no carrier; 6: houses that are paused on the present day");
        PaperRounds t = new PaperRounds();
        t.carrier(0, 10);
        for (int house = 0; house < 24; house++) {
            t.house(0, 1, 0);
        }
        is("given to none", t.count(5), 24);
        is("paused", t.count(6), 0);
        for (int house = 0; house < 24; house++) {
            t.give(house, 0);
            t.pause(house, 1, 1);
            is("given to none", t.count(5), 23 - house);
        }
        is("paused on the day 0", t.count(6), 0);
        t.days(1);
        is("paused on the day 1", t.count(6), 24);
        t.days(1);
        is("paused on the day 2", t.count(6), 0);
        is("two pauses of one house", t.pause(0, 2, 2) + t.pause(0, 2, 3), 24 + 25);
        is("count once", t.count(6), 1);
        says("7: complaints so far; 8: tips so far; 9: states in the history; 10: the length of the text");
        PaperRounds u = roundOf(10, 1, 4);
        for (int lost = 0; lost <= 3; lost++) {
            is("complaints", u.count(7), lost);
            is("states", u.count(9), 4);
            u.days(1);
        }
        is("the tips", u.days(3) * 0 + u.count(8), 100);
        u.type(65);
        is("length", u.count(10), 1);
    }

    private static void undone() {
        says("Restores the latest state of the history, which is removed from it.");
        PaperRounds t = new PaperRounds();
        is("undo of a new object", t.undo(), NOT_POSSIBLE);
        t.house(0, 1, 0);
        is("undo of one", t.undo(), 0);
        is("houses", t.count(1), 0);
        is("undo of none", t.undo(), NOT_POSSIBLE);
        is("a refused one adds no state", t.house(1, 1, 0), INVALID);
        is("undo of none", t.undo(), NOT_POSSIBLE);
        for (int i = 0; i < 30; i++) {
            t.house(0, 1, 0);
            t.days(7);
            t.undo();
            is("houses", t.count(1), 1);
            is("day", t.count(4), 0);
            t.undo();
            is("no houses", t.count(1), 0);
        }
        is("states", t.count(9), 0);
    }

    private static void textCalls() {
        says("Appends a character to the text. 32 to 126");
        PaperRounds t = new PaperRounds();
        for (int i = 0; i < 60; i++) {
            is("type", t.type(i % 2 == 0 ? 32 : 126), i + 1);
        }
        is("type", t.type(32), LIMIT);
        says("Empties the text. Returns the length it had.");
        is("clearText", t.clearText(), 60);
        is("clearText", t.clearText(), 0);
        is("type", t.type(100), 1);
        is("clearText", t.clearText(), 1);
        says("NOT_FOUND if the text has no fault (also if it is empty), for 2 if its reason is 1");
        for (int what = 0; what <= 2; what++) {
            is("fault " + what, t.fault(what), NOT_FOUND);
        }
        t.type(100);
        is("position", t.fault(0), 0);
        is("reason", t.fault(1), 1);
        is("cause", t.fault(2), NOT_FOUND);
        t.type(57);
        t.type(59);
        for (int what = 0; what <= 2; what++) {
            is("fault " + what + " of d9;", t.fault(what), NOT_FOUND);
        }
        says("Does all orders of the text, which stays. They are one change, also if there are none.");
        is("play", t.play(), 1);
        is("length", t.count(10), 3);
        is("states", t.count(9), 1);
        is("day", t.count(4), 9);
        t.clearText();
        is("play of none", t.play(), 0);
        is("states", t.count(9), 2);
        is("day", t.count(4), 9);
        is("undo of none", t.undo(), 1);
        is("day", t.count(4), 9);
        is("undo", t.undo(), 0);
        is("day", t.count(4), 0);
        says("NOT_POSSIBLE if it has a fault.");
        write(t, "d1;d1;d1;d32;");
        is("play", t.play(), NOT_POSSIBLE);
        is("day", t.count(4), 0);
        is("states", t.count(9), 0);
        write(t, "d1;d1;d1;");
        is("play of three", t.play(), 3);
        is("one state", t.count(9), 1);
        is("again", t.play(), 3);
        is("two states", t.count(9), 2);
        is("undo of three days", t.undo(), 1);
        is("day", t.count(4), 3);
    }
}
