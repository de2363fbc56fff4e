/** Every promise of the document: ordinary inputs, the edges that it names, and wrong inputs. */
public final class PromisesTest {
    private static final int INVALID = -1;
    private static final int NOT_POSSIBLE = -2;
    private static final int LIMIT = -3;
    private static final int NOT_FOUND = -4;

    private static int promise = 0;
    private static int checks = 0;
    private static int wrong = 0;

    private static void is(String call, int got, int want) {
        checks++;
        if (got != want) {
            wrong++;
            System.out.println("promise " + promise + ": " + call + " answered " + got + ", due is " + want);
        }
    }

    private static void write(PaperRounds town, String text) {
        town.clearText();
        for (int i = 0; i < text.length(); i++) {
            is("type in " + text, town.type(text.charAt(i)), i + 1);
        }
    }

    private static void faultIs(PaperRounds town, String text, int position, int reason, int cause) {
        write(town, text);
        is("fault(0) of " + text, town.fault(0), position);
        is("fault(1) of " + text, town.fault(1), reason);
        is("fault(2) of " + text, town.fault(2), cause);
        is("play of " + text, town.play(), reason == NOT_FOUND ? 0 : NOT_POSSIBLE);
    }

    public static void main(String[] args) {
        constants();
        newObject();
        corners();
        houses();
        dogs();
        pauses();
        carriers();
        gives();
        givesReach();
        givesNone();
        biscuits();
        settings();
        days();
        daysWithTrips();
        daysAtTheLimit();
        daysAddUp();
        daysOfTheLeastWeights();
        daysWithDogs();
        tips();
        tipsOfOneWeekOnly();
        cornersTold();
        housesTold();
        shares();
        means();
        carriersTold();
        pausesTold();
        roundsInOrder();
        forecasts();
        forecastsOfSlopes();
        lightest();
        lightestOfTrips();
        lightestBelowZero();
        nextDogs();
        accounts();
        counts();
        undoing();
        undoingEverything();
        undoingEachKind();
        undoingOrders();
        addingAgain();
        weekOfANewHouse();
        undoingTheWeek();
        undoingTheOrder();
        fullTown();
        typing();
        clearing();
        formFaults();
        callFaults();
        playing();
        System.out.println(checks + " checks, " + wrong + " wrong");
        if (wrong > 0) {
            System.exit(1);
        }
    }

    private static void constants() {
        promise = 0;
        is("INVALID_ARGUMENT", PaperRounds.INVALID_ARGUMENT, -1);
        is("NOT_POSSIBLE", PaperRounds.NOT_POSSIBLE, -2);
        is("LIMIT_REACHED", PaperRounds.LIMIT_REACHED, -3);
        is("NOT_FOUND", PaperRounds.NOT_FOUND, -4);
    }

    private static void newObject() {
        promise = 1;
        PaperRounds t = new PaperRounds();
        int[] wanted = {1, 0, 0, 0, 0, 0, 0, 0, 0, 0, 0};
        for (int what = 0; what <= 10; what++) {
            is("count " + what, t.count(what), wanted[what]);
        }
        for (int what = 0; what <= 5; what++) {
            is("account " + what, t.account(what), 0);
        }
        is("weight", t.count(20), 3);
        is("weight on Sundays", t.count(21), 8);
        is("undo", t.undo(), NOT_POSSIBLE);
        is("fault", t.fault(0), NOT_FOUND);
        is("height of the depot", t.cornerOf(0, 2), 0);
    }

    private static void corners() {
        promise = 2;
        PaperRounds t = new PaperRounds();
        is("least", t.corner(0, 1, 0, 0), 1);
        is("most", t.corner(1, 50, 100, 1), 2);
        is("ahead -1", t.corner(-1, 5, 5, 0), INVALID);
        is("ahead that is not there", t.corner(3, 5, 5, 0), INVALID);
        is("length 0", t.corner(0, 0, 5, 0), INVALID);
        is("length 51", t.corner(0, 51, 5, 0), INVALID);
        is("height -1", t.corner(0, 5, -1, 0), INVALID);
        is("height 101", t.corner(0, 5, 101, 0), INVALID);
        is("stairs -1", t.corner(0, 5, 5, -1), INVALID);
        is("stairs 2", t.corner(0, 5, 5, 2), INVALID);
        is("extreme", t.corner(Integer.MAX_VALUE, Integer.MIN_VALUE, Integer.MAX_VALUE, Integer.MIN_VALUE), INVALID);
        is("corners", t.count(0), 3);
        is("states", t.count(9), 2);
        for (int corner = 3; corner < 20; corner++) {
            is("corner " + corner, t.corner(corner - 1, 2, corner, 0), corner);
        }
        is("the 21st", t.corner(0, 2, 2, 0), LIMIT);
        is("the 21st, wrong", t.corner(20, 2, 2, 0), INVALID);
        is("corners at most", t.count(0), 20);
    }

    private static void houses() {
        promise = 3;
        PaperRounds t = new PaperRounds();
        t.corner(0, 5, 5, 0);
        is("least", t.house(0, 1, 0), 0);
        is("most", t.house(1, 5, 500), 1);
        is("corner -1", t.house(-1, 1, 0), INVALID);
        is("corner that is not there", t.house(2, 1, 0), INVALID);
        is("papers 0", t.house(0, 0, 0), INVALID);
        is("papers 6", t.house(0, 6, 0), INVALID);
        is("tip -1", t.house(0, 1, -1), INVALID);
        is("tip 501", t.house(0, 1, 501), INVALID);
        is("no dog", t.houseOf(1, 4), NOT_FOUND);
        is("no carrier", t.houseOf(1, 3), NOT_FOUND);
        is("states", t.count(9), 3);
        for (int house = 2; house < 24; house++) {
            is("house " + house, t.house(1, 2, house), house);
        }
        is("the 25th", t.house(1, 2, 3), LIMIT);
        is("the 25th, wrong", t.house(1, 2, 501), INVALID);
        is("houses at most", t.count(1), 24);
    }

    private static void dogs() {
        promise = 4;
        PaperRounds t = new PaperRounds();
        t.house(0, 1, 0);
        is("none before", t.dog(0, 2, 8), 0);
        is("2 before", t.dog(0, 9, 0), 2);
        is("period 1", t.dog(0, 1, 0), INVALID);
        is("period 10", t.dog(0, 10, 0), INVALID);
        is("period -1", t.dog(0, -1, 0), INVALID);
        is("phase -1", t.dog(0, 3, -1), INVALID);
        is("phase 9", t.dog(0, 3, 9), INVALID);
        is("phase 9 without a dog", t.dog(0, 0, 9), INVALID);
        is("house 1", t.dog(1, 3, 0), INVALID);
        is("house -1", t.dog(-1, 3, 0), INVALID);
        is("still 9", t.houseOf(0, 4), 9);
        is("taken away", t.dog(0, 0, 4), 9);
        is("gone", t.houseOf(0, 4), NOT_FOUND);
        is("taken away twice", t.dog(0, 0, 0), 0);
        is("also a change", t.count(9), 4);
        t.dog(0, 3, 8);
        is("phase 8 of 3 is 2", t.nextDog(0), 2);
    }

    private static void pauses() {
        promise = 5;
        PaperRounds t = new PaperRounds();
        t.house(0, 1, 0);
        t.days(5);
        is("the present day", t.pause(0, 5, 5), 0);
        is("the day before", t.pause(0, 4, 5), INVALID);
        is("backwards", t.pause(0, 7, 6), INVALID);
        is("999", t.pause(0, 999, 999), 1);
        is("to 1000", t.pause(0, 999, 1000), INVALID);
        is("from 1000", t.pause(0, 1000, 1000), INVALID);
        is("house 1", t.pause(1, 5, 5), INVALID);
        is("house -1", t.pause(-1, 5, 5), INVALID);
        is("first -1", t.pause(0, -1, 5), INVALID);
        for (int pause = 2; pause < 30; pause++) {
            is("pause " + pause, t.pause(0, 10, 10 + pause), pause);
        }
        is("the 31st", t.pause(0, 10, 10), LIMIT);
        is("the 31st, wrong", t.pause(0, 10, 9), INVALID);
        is("pauses at most", t.count(3), 30);
        PaperRounds late = new PaperRounds();
        late.house(0, 1, 0);
        for (int i = 0; i < 32; i++) {
            late.days(31);
        }
        is("days left", late.days(8), 0);
        is("the day 1000", late.count(4), 1000);
        is("no day is left", late.pause(0, 1000, 1000), INVALID);
        is("no day is left for 999", late.pause(0, 999, 999), INVALID);
    }

    private static void carriers() {
        promise = 6;
        PaperRounds t = new PaperRounds();
        is("cart 2", t.carrier(2, 20), INVALID);
        is("cart -1", t.carrier(-1, 20), INVALID);
        is("limit 9", t.carrier(0, 9), INVALID);
        is("limit 501", t.carrier(0, 501), INVALID);
        is("least", t.carrier(0, 10), 0);
        is("most", t.carrier(1, 500), 1);
        is("third", t.carrier(0, 77), 2);
        is("the 4th", t.carrier(0, 77), LIMIT);
        is("the 4th, wrong", t.carrier(0, 501), INVALID);
        is("carriers", t.count(2), 3);
        is("no biscuits", t.carrierOf(2, 2), 0);
    }

    private static void gives() {
        promise = 7;
        PaperRounds t = new PaperRounds();
        t.house(0, 1, 0);
        t.house(0, 1, 0);
        t.carrier(0, 20);
        t.carrier(0, 20);
        is("one", t.give(1, 0), 1);
        is("two", t.give(0, 0), 2);
        is("again", t.give(0, 0), NOT_POSSIBLE);
        is("to another", t.give(0, 1), 1);
        is("one is left", t.carrierOf(0, 3), 1);
        is("house 2", t.give(2, 0), INVALID);
        is("house -1", t.give(-1, 0), INVALID);
        is("carrier 2", t.give(0, 2), INVALID);
        is("carrier -1", t.give(0, -1), INVALID);
        is("carrier", t.houseOf(0, 3), 1);
    }

    private static void givesReach() {
        promise = 7;
        PaperRounds t = new PaperRounds();
        t.corner(0, 1, 0, 1);
        t.corner(1, 1, 0, 0);
        t.corner(0, 1, 0, 0);
        t.house(2, 1, 0);
        t.house(3, 1, 0);
        t.house(1, 1, 0);
        t.carrier(1, 20);
        t.carrier(0, 20);
        is("stairs on the way", t.give(0, 0), NOT_POSSIBLE);
        is("no stairs", t.give(1, 0), 1);
        is("stairs to it", t.give(2, 0), NOT_POSSIBLE);
        is("on foot", t.give(0, 1), 1);
    }

    private static void givesNone() {
        promise = 8;
        PaperRounds t = new PaperRounds();
        t.house(0, 1, 0);
        t.carrier(0, 20);
        t.carrier(0, 20);
        is("none had it", t.giveNone(0), NOT_POSSIBLE);
        t.give(0, 1);
        is("had it", t.giveNone(0), 1);
        is("none has it", t.houseOf(0, 3), NOT_FOUND);
        is("twice", t.giveNone(0), NOT_POSSIBLE);
        is("house 1", t.giveNone(1), INVALID);
        is("house -1", t.giveNone(-1), INVALID);
    }

    private static void biscuits() {
        promise = 9;
        PaperRounds t = new PaperRounds();
        is("no carrier", t.biscuits(0, 1), INVALID);
        t.carrier(0, 20);
        is("1", t.biscuits(0, 1), 1);
        is("0", t.biscuits(0, 0), INVALID);
        is("100", t.biscuits(0, 100), INVALID);
        is("carrier -1", t.biscuits(-1, 1), INVALID);
        for (int i = 1; i <= 5; i++) {
            is("99", t.biscuits(0, 99), 1 + 99 * i);
        }
        is("501", t.biscuits(0, 5), LIMIT);
        is("500", t.biscuits(0, 4), 500);
        is("more", t.biscuits(0, 1), LIMIT);
        is("wrong rather than the limit", t.biscuits(0, 100), INVALID);
        is("kept", t.carrierOf(0, 2), 500);
    }

    private static void settings() {
        promise = 10;
        PaperRounds t = new PaperRounds();
        is("weight", t.set(0, 20), 3);
        is("weight again", t.set(0, 1), 20);
        is("on Sundays", t.set(1, 50), 8);
        is("on Sundays again", t.set(1, 1), 50);
        is("0 of 0", t.set(0, 0), INVALID);
        is("21 of 0", t.set(0, 21), INVALID);
        is("0 of 1", t.set(1, 0), INVALID);
        is("51 of 1", t.set(1, 51), INVALID);
        is("what 2", t.set(2, 5), INVALID);
        is("what -1", t.set(-1, 5), INVALID);
        is("weight is", t.count(20), 1);
        is("on Sundays is", t.count(21), 1);
        is("the same value", t.set(0, 1), 1);
        is("is a change", t.count(9), 4);
    }

    private static void days() {
        promise = 11;
        PaperRounds t = new PaperRounds();
        t.house(0, 2, 0);
        t.house(0, 3, 0);
        t.carrier(0, 500);
        t.give(1, 0);
        is("0", t.days(0), INVALID);
        is("32", t.days(32), INVALID);
        is("-1", t.days(-1), INVALID);
        is("31", t.days(31), 93);
        is("lost ones", t.houseOf(0, 9), 62);
        for (int i = 1; i < 32; i++) {
            is("31", t.days(31), 93);
        }
        is("the day 992", t.count(4), 992);
        is("1001", t.days(9), LIMIT);
        is("1001, wrong", t.days(32), INVALID);
        is("still 992", t.count(4), 992);
        is("1000", t.days(8), 24);
        is("past the end", t.days(1), LIMIT);
        is("what was delivered", t.account(1), 3000);
    }

    private static void daysWithTrips() {
        promise = 11;
        PaperRounds t = new PaperRounds();
        t.corner(0, 10, 30, 0);
        t.corner(1, 7, 10, 0);
        t.house(2, 2, 0);
        t.house(1, 2, 0);
        t.house(0, 1, 0);
        t.carrier(0, 16);
        t.give(0, 0);
        t.give(1, 0);
        t.give(2, 0);
        // In order 2 (3), 1 (6), 0 (6): the trip is 15 heavy, 12 of it up the hill.
        is("a week day", t.days(1), 5);
        is("one trip", t.carrierOf(0, 4), 1);
        is("effort", t.carrierOf(0, 5), 20 + 30 * (10 + 12) / 10 + 14 + 20);
        t.days(5);
        is("six trips", t.carrierOf(0, 4), 6);
        // On the Sunday 2 (8), then 1 (16), then 0 (16): three trips.
        is("a Sunday", t.days(1), 5);
        is("nine trips", t.carrierOf(0, 4), 9);
        int sunday = 0 + (20 + 30 * (10 + 16) / 10) + (20 + 30 * (10 + 16) / 10 + 14 + 20);
        is("effort of all", t.carrierOf(0, 5), 6 * 120 + sunday);
    }

    private static void daysAtTheLimit() {
        promise = 11;
        PaperRounds t = new PaperRounds();
        t.corner(0, 10, 0, 0);
        t.house(1, 2, 0);
        t.house(1, 3, 0);
        t.carrier(0, 10);
        t.give(0, 0);
        t.give(1, 0);
        t.set(0, 2);
        t.set(1, 3);
        is("as heavy as the limit", t.days(1), 5);
        is("one trip", t.carrierOf(0, 4), 1);
        t.set(0, 3);
        is("heavier", t.days(1), 5);
        is("two trips more", t.carrierOf(0, 4), 3);
        t.house(1, 5, 0);
        t.give(2, 0);
        t.set(0, 2);
        is("a house as heavy as the limit", t.days(1), 10);
        is("two trips more again", t.carrierOf(0, 4), 5);
        is("Sundays weigh 3", t.round(0, 6, 2), 5);
        is("other days 2", t.round(0, 5, 2), 10);
        is("effort of five trips", t.carrierOf(0, 5), 5 * 20);
        t.set(0, 1);
        is("as heavy as the limit again", t.round(0, 4, 0), 1);
        t.house(1, 1, 0);
        t.give(3, 0);
        is("heavier by 1", t.round(0, 4, 0), 2);
    }

    private static void daysOfTheLeastWeights() {
        promise = 11;
        PaperRounds t = new PaperRounds();
        t.corner(0, 1, 1, 0);
        t.corner(1, 1, 1, 0);
        t.corner(0, 1, 100, 0);
        t.house(2, 1, 0);
        t.carrier(0, 10);
        t.carrier(1, 10);
        t.give(0, 0);
        t.set(0, 1);
        is("weight 1", t.days(1), 1);
        // Up 1 with 1: 1 (1.1); flat.
        is("up by 1", t.carrierOf(0, 5), (2 + 1) + 2);
        t.corner(1, 1, 0, 0);
        t.house(4, 1, 0);
        t.give(1, 1);
        t.days(1);
        is("down by 1", t.carrierOf(1, 5), (2 + 1) + (2 + 1));
        t.house(3, 1, 0);
        t.give(2, 0);
        t.days(1);
        is("up by 100", t.carrierOf(0, 5), 3 * 5 + (2 + 110));
        t.give(2, 1);
        t.days(1);
        is("up by 100 with a cart", t.carrierOf(1, 5), 3 * 6 + (2 + 105));
    }

    private static void daysAddUp() {
        promise = 11;
        PaperRounds t = new PaperRounds();
        t.corner(0, 3, 10, 0);
        t.house(1, 1, 0);
        t.house(1, 2, 0);
        t.house(1, 4, 0);
        t.carrier(0, 100);
        t.give(0, 0);
        t.give(1, 0);
        is("one day", t.days(1), 3);
        is("two houses of one corner", t.carrierOf(0, 5), 6 + 10 * (10 + 9) / 10);
        t.dog(0, 2, 0);
        t.dog(1, 2, 1);
        t.pause(2, 1, 3);
        is("five days", t.days(5), 3 * 1 + 2 * 2);
        is("returned of the first", t.houseOf(0, 8), 2);
        is("returned of the second", t.houseOf(1, 8), 6);
        is("paused", t.houseOf(2, 7), 12);
        is("lost", t.houseOf(2, 9), 12);
        is("complaints of all", t.count(7), 2 + 3 + 3);
        is("returned of all", t.account(3), 8);
        is("paused of all", t.account(2), 12);
        is("lost of all", t.account(5), 12);
        is("delivered of all", t.account(1), 10);
        is("all", t.account(0), 42);
    }

    private static void daysWithDogs() {
        promise = 11;
        PaperRounds t = new PaperRounds();
        t.corner(0, 1, 0, 0);
        t.house(1, 1, 0);
        t.house(0, 2, 0);
        t.carrier(0, 100);
        t.give(0, 0);
        t.give(1, 0);
        t.dog(0, 2, 0);
        t.dog(1, 2, 0);
        t.biscuits(0, 1);
        // The house at the depot comes first, so it has the only biscuit.
        is("one biscuit", t.days(1), 2);
        is("no biscuits", t.carrierOf(0, 2), 0);
        is("delivered", t.houseOf(1, 6), 2);
        is("returned", t.houseOf(0, 8), 1);
        is("complained", t.houseOf(0, 10), 1);
        is("no dog is out", t.days(1), 3);
        is("no biscuit", t.days(1), 0);
        is("returned by dogs", t.account(3), 4);
        // Too heavy papers meet no dog, and paused ones neither.
        t.biscuits(0, 9);
        t.set(0, 20);
        t.set(1, 50);
        t.pause(0, 4, 4);
        t.carrier(0, 10);
        t.give(0, 1);
        t.give(1, 1);
        t.biscuits(1, 5);
        is("too heavy", t.days(2), 0);
        is("no biscuit was given", t.carrierOf(1, 2), 5);
        is("too heavy ones", t.account(4), 5);
        is("paused ones", t.account(2), 1);
    }

    private static PaperRounds townOfTips(int dogPeriod, int biscuits) {
        PaperRounds t = new PaperRounds();
        t.house(0, 1, 101);
        t.carrier(0, 500);
        t.give(0, 0);
        t.dog(0, dogPeriod, 0);
        if (biscuits > 0) {
            t.biscuits(0, biscuits);
        }
        return t;
    }

    private static void tips() {
        promise = 11;
        PaperRounds good = townOfTips(0, 0);
        good.days(6);
        is("none before Sunday", good.count(8), 0);
        good.days(1);
        is("all of the tip", good.carrierOf(0, 6), 101);
        PaperRounds half = townOfTips(8, 0);
        half.days(7);
        is("half of it", half.carrierOf(0, 6), 50);
        PaperRounds nothing = townOfTips(4, 0);
        nothing.days(7);
        is("two complaints", nothing.houseOf(0, 10), 2);
        is("nothing", nothing.carrierOf(0, 6), 0);
        PaperRounds sweet = townOfTips(4, 1);
        sweet.days(7);
        is("one biscuit", sweet.carrierOf(0, 6), 50);
        PaperRounds none = townOfTips(0, 0);
        none.days(6);
        none.giveNone(0);
        none.days(1);
        is("no carrier then", none.count(8), 0);
        PaperRounds other = townOfTips(0, 0);
        other.carrier(1, 10);
        other.days(6);
        other.give(0, 1);
        other.days(1);
        is("not to the one before", other.carrierOf(0, 6), 0);
        is("to the one who has it", other.carrierOf(1, 6), 101);
    }

    private static void tipsOfOneWeekOnly() {
        promise = 11;
        PaperRounds t = townOfTips(0, 0);
        t.dog(0, 7, 6);
        t.days(7);
        is("a complaint on the Sunday counts", t.count(8), 50);
        is("forgotten then", t.houseOf(0, 11), 0);
        is("but told", t.houseOf(0, 10), 1);
        t.dog(0, 0, 0);
        t.days(7);
        is("a good week", t.count(8), 151);
        t.pause(0, 14, 20);
        t.days(7);
        is("nothing was delivered", t.count(8), 151);
        t.days(1);
        t.pause(0, 22, 27);
        t.days(6);
        is("once is enough", t.count(8), 252);
        // The tip is due even if the last of the week was long ago, and the dog's week is one of many complaints.
        t.dog(0, 2, 1);
        t.days(7);
        is("many complaints", t.count(8), 252);
    }

    private static void cornersTold() {
        promise = 12;
        PaperRounds t = new PaperRounds();
        t.corner(0, 10, 20, 0);
        t.corner(1, 50, 100, 1);
        t.corner(2, 5, 0, 0);
        t.corner(1, 3, 7, 0);
        t.house(3, 1, 0);
        t.house(1, 1, 0);
        t.house(0, 1, 0);
        t.house(4, 1, 0);
        int[][] wanted = {
            {NOT_FOUND, NOT_FOUND, 0, NOT_FOUND, 0, 4, 1},
            {0, 10, 20, 0, 10, 3, 1},
            {1, 50, 100, 1, 60, 1, 0},
            {2, 5, 0, 0, 65, 1, 0},
            {1, 3, 7, 0, 13, 1, 1}};
        for (int corner = 0; corner < 5; corner++) {
            for (int what = 0; what < 7; what++) {
                is("cornerOf " + corner + " " + what, t.cornerOf(corner, what), wanted[corner][what]);
            }
        }
        is("corner 5", t.cornerOf(5, 0), INVALID);
        is("corner -1", t.cornerOf(-1, 0), INVALID);
        is("what 7", t.cornerOf(0, 7), INVALID);
        is("what -1", t.cornerOf(0, -1), INVALID);
    }

    private static void housesTold() {
        promise = 13;
        PaperRounds t = new PaperRounds();
        t.corner(0, 10, 20, 0);
        t.house(0, 5, 0);
        t.house(1, 4, 99);
        t.carrier(0, 500);
        t.carrier(0, 500);
        is("carrier", t.houseOf(1, 3), NOT_FOUND);
        t.days(1);
        t.give(1, 1);
        t.days(2);
        t.dog(1, 3, 0);
        t.pause(1, 4, 4);
        t.days(1);
        is("paused on the day 4", t.houseOf(1, 5), 1);
        is("the other is not", t.houseOf(0, 5), 0);
        t.days(2);
        int[] wanted = {1, 4, 99, 1, 3, 0, 12, 4, 4, 4, 2, 2};
        for (int what = 0; what < 12; what++) {
            is("houseOf 1 " + what, t.houseOf(1, what), wanted[what]);
        }
        t.days(1);
        is("complaints so far", t.houseOf(1, 10), 3);
        is("complaints since Sunday", t.houseOf(1, 11), 0);
        is("house 2", t.houseOf(2, 0), INVALID);
        is("house -1", t.houseOf(-1, 0), INVALID);
        is("what 12", t.houseOf(0, 12), INVALID);
        is("what -1", t.houseOf(0, -1), INVALID);
    }

    private static void shares() {
        promise = 14;
        PaperRounds t = new PaperRounds();
        t.house(0, 3, 0);
        t.carrier(0, 500);
        is("nothing yet", t.shareBits(0), NOT_FOUND);
        t.pause(0, 0, 0);
        t.days(1);
        is("only paused ones", t.shareBits(0), NOT_FOUND);
        t.days(1);
        is("nothing delivered", t.shareBits(0), 0);
        t.give(0, 0);
        t.days(1);
        is("half", t.shareBits(0), Float.floatToIntBits(0.5f));
        t.days(1);
        is("two of three", t.shareBits(0), Float.floatToIntBits(6.0f / 9.0f));
        t.dog(0, 2, 0);
        t.days(1);
        is("with the returned ones", t.shareBits(0), Float.floatToIntBits(6.0f / 12.0f));
        t.giveNone(0);
        t.days(1);
        is("with the lost ones", t.shareBits(0), Float.floatToIntBits(6.0f / 15.0f));
        is("house 1", t.shareBits(1), INVALID);
        is("house -1", t.shareBits(-1), INVALID);
        PaperRounds all = new PaperRounds();
        all.house(0, 1, 0);
        all.carrier(0, 500);
        all.give(0, 0);
        all.days(1);
        is("all", all.shareBits(0), Float.floatToIntBits(1.0f));
        PaperRounds few = new PaperRounds();
        few.house(0, 1, 0);
        few.carrier(0, 500);
        few.give(0, 0);
        few.days(1);
        few.giveNone(0);
        for (int day = 2; day <= 250; day++) {
            few.days(1);
            is("1 of " + day, few.shareBits(0), Float.floatToIntBits(1.0f / (float) day));
        }
    }

    private static void means() {
        promise = 15;
        PaperRounds t = new PaperRounds();
        is("no house", t.meanBits(), NOT_FOUND);
        t.house(0, 3, 0);
        is("no papers", t.meanBits(), NOT_FOUND);
        PaperRounds single = new PaperRounds();
        single.house(0, 1, 0);
        single.days(1);
        is("one paper", single.meanBits(), 0);
        t.carrier(0, 500);
        t.days(1);
        is("zero", t.meanBits(), 0);
        t.give(0, 0);
        t.days(2);
        is("one", t.meanBits(), Float.floatToIntBits(2.0f / 3.0f));
        t.house(0, 1, 0);
        is("one has none", t.meanBits(), Float.floatToIntBits(2.0f / 3.0f));
        t.give(1, 0);
        t.days(1);
        t.house(0, 1, 0);
        t.days(3);
        double sum = (double) (6.0f / 7.0f) + (double) (4.0f / 4.0f) + (double) (0.0f / 3.0f);
        is("three", t.meanBits(), Float.floatToIntBits((float) (sum / 3.0)));
        PaperRounds good = new PaperRounds();
        good.house(0, 1, 0);
        good.house(0, 1, 0);
        good.carrier(0, 500);
        good.give(0, 0);
        good.give(1, 0);
        good.days(3);
        is("all", good.meanBits(), Float.floatToIntBits(1.0f));
    }

    private static void carriersTold() {
        promise = 16;
        PaperRounds t = new PaperRounds();
        t.corner(0, 10, 10, 0);
        t.carrier(0, 10);
        t.carrier(1, 30);
        t.house(1, 2, 10);
        t.house(0, 1, 5);
        t.house(0, 1, 5);
        t.give(0, 1);
        t.give(1, 1);
        t.dog(1, 7, 0);
        t.biscuits(1, 3);
        t.days(7);
        int effort = 6 * (20 + 10 * (20 + 6) / 20) + (20 + 10 * (20 + 16) / 20);
        int[] wanted = {1, 30, 2, 2, 7, effort, 15, 21};
        for (int what = 0; what < 8; what++) {
            is("carrierOf 1 " + what, t.carrierOf(1, what), wanted[what]);
        }
        int[] idle = {0, 10, 0, 0, 0, 0, 0, 0};
        for (int what = 0; what < 8; what++) {
            is("carrierOf 0 " + what, t.carrierOf(0, what), idle[what]);
        }
        is("carrier 2", t.carrierOf(2, 0), INVALID);
        is("carrier -1", t.carrierOf(-1, 0), INVALID);
        is("what 8", t.carrierOf(0, 8), INVALID);
        is("what -1", t.carrierOf(0, -1), INVALID);
    }

    private static void pausesTold() {
        promise = 17;
        PaperRounds t = new PaperRounds();
        t.house(0, 1, 0);
        t.house(0, 1, 0);
        is("none", t.pauseOf(0, 0), INVALID);
        t.pause(1, 0, 999);
        t.pause(0, 3, 7);
        is("house", t.pauseOf(0, 0), 1);
        is("first", t.pauseOf(0, 1), 0);
        is("last", t.pauseOf(0, 2), 999);
        is("house", t.pauseOf(1, 0), 0);
        is("first", t.pauseOf(1, 1), 3);
        is("last", t.pauseOf(1, 2), 7);
        is("pause 2", t.pauseOf(2, 0), INVALID);
        is("pause -1", t.pauseOf(-1, 0), INVALID);
        is("what 3", t.pauseOf(0, 3), INVALID);
        is("what -1", t.pauseOf(0, -1), INVALID);
        is("on its first day", t.houseOf(1, 5), 1);
        t.days(3);
        is("on the first day", t.houseOf(0, 5), 1);
        t.days(4);
        is("on the last day", t.houseOf(0, 5), 1);
        t.days(1);
        is("after it", t.houseOf(0, 5), 0);
    }

    private static void roundsInOrder() {
        promise = 18;
        PaperRounds t = new PaperRounds();
        t.corner(0, 1, 0, 0);
        t.corner(0, 1, 0, 0);
        t.corner(1, 1, 0, 0);
        t.corner(2, 1, 0, 0);
        t.corner(1, 1, 0, 0);
        t.corner(3, 1, 0, 0);
        // The order of the corners: 0 1 3 6 5 2 4.
        int[] corners = {4, 2, 5, 6, 3, 1, 0, 3, 0};
        for (int house = 0; house < corners.length; house++) {
            t.house(corners[house], 1, 0);
        }
        t.carrier(0, 10);
        t.carrier(0, 10);
        is("empty", t.roundAt(0, 0), NOT_FOUND);
        for (int house = 0; house < corners.length; house++) {
            t.give(house, 0);
        }
        t.pause(6, 0, 999);
        int[] wanted = {6, 8, 5, 4, 7, 3, 2, 1, 0, NOT_FOUND};
        for (int index = 0; index < wanted.length; index++) {
            is("roundAt 0 " + index, t.roundAt(0, index), wanted[index]);
        }
        t.give(4, 1);
        t.corner(3, 1, 0, 0);
        t.house(7, 1, 0);
        t.give(9, 0);
        int[] then = {6, 8, 5, 7, 3, 9, 2, 1, 0, NOT_FOUND};
        for (int index = 0; index < then.length; index++) {
            is("then roundAt 0 " + index, t.roundAt(0, index), then[index]);
        }
        is("the other", t.roundAt(1, 0), 4);
        is("index -1", t.roundAt(0, -1), INVALID);
        is("most", t.roundAt(0, Integer.MAX_VALUE), NOT_FOUND);
        is("carrier 2", t.roundAt(2, 0), INVALID);
        is("carrier -1", t.roundAt(-1, 0), INVALID);
    }

    private static void forecasts() {
        promise = 19;
        PaperRounds t = new PaperRounds();
        t.corner(0, 10, 0, 0);
        t.carrier(0, 15);
        t.carrier(0, 15);
        t.house(0, 1, 0);
        t.house(1, 2, 0);
        t.house(1, 5, 0);
        for (int house = 0; house < 3; house++) {
            t.give(house, 0);
        }
        t.dog(1, 3, 1);
        t.dog(2, 4, 1);
        t.days(1);
        // On the day 1: 1 * 3 + 2 * 3, then 5 * 3.
        is("trips", t.round(0, 1, 0), 2);
        is("efforts", t.round(0, 1, 1), 40);
        is("papers", t.round(0, 1, 2), 8);
        is("dogs", t.round(0, 1, 3), 2);
        is("no dogs", t.round(0, 2, 3), 0);
        // On the Sunday 6 the two papers weigh 16 and the five 40.
        is("trips on Sunday", t.round(0, 6, 0), 1);
        is("efforts on Sunday", t.round(0, 6, 1), 0);
        is("papers on Sunday", t.round(0, 6, 2), 1);
        t.dog(2, 6, 0);
        is("no dog with too heavy papers", t.round(0, 6, 3), 0);
        t.pause(1, 7, 7);
        is("without the paused one", t.round(0, 7, 2), 6);
        is("no dog of the paused one", t.round(0, 7, 3), 0);
        is("the day after", t.round(0, 8, 2), 8);
        t.biscuits(0, 9);
        is("a dog with biscuits", t.round(0, 10, 3), 1);
        is("no house", t.round(1, 1, 0), 0);
        is("nothing loaded", t.round(1, 1, 1), 0);
        is("no papers", t.round(1, 1, 2), 0);
        is("999", t.round(0, 999, 2), 8);
        is("1000", t.round(0, 1000, 0), INVALID);
        is("past", t.round(0, 0, 0), INVALID);
        is("what 4", t.round(0, 1, 4), INVALID);
        is("what -1", t.round(0, 1, -1), INVALID);
        is("carrier 2", t.round(2, 1, 0), INVALID);
        is("carrier -1", t.round(-1, 1, 0), INVALID);
        is("changes nothing", t.carrierOf(0, 4), 2);
        is("changes nothing at all", t.carrierOf(0, 2), 9);
    }

    private static void forecastsOfSlopes() {
        promise = 19;
        PaperRounds t = new PaperRounds();
        t.corner(0, 3, 7, 0);
        t.corner(1, 4, 7, 0);
        t.corner(2, 5, 2, 0);
        t.corner(1, 6, 100, 0);
        t.carrier(0, 100);
        t.carrier(1, 100);
        t.house(3, 1, 0);
        t.house(4, 2, 0);
        t.give(0, 0);
        t.give(1, 0);
        // Up 7 with 9: 13 (13.3); flat; down 5; up 93 with 6: 148 (148.8).
        is("on foot", t.round(0, 0, 1), (6 + 13) + (8 + 0) + (10 + 5) + (12 + 148));
        t.give(0, 1);
        t.give(1, 1);
        // Up 7 with 9: 10 (10.15); up 93 with 6: 120 (120.9).
        is("with a cart", t.round(1, 0, 1), (6 + 10) + (8 + 0) + (10 + 5) + (12 + 120));
        t.give(1, 0);
        is("streets without houses", t.round(1, 0, 1), (6 + 7 * 23 / 20) + 8 + (10 + 5));
    }

    private static void lightest() {
        promise = 20;
        PaperRounds t = new PaperRounds();
        t.corner(0, 10, 20, 0);
        t.corner(0, 10, 20, 1);
        t.house(1, 1, 0);
        t.house(2, 1, 0);
        is("no carrier", t.lightest(0, 0), NOT_FOUND);
        t.carrier(0, 100);
        is("the only one", t.lightest(0, 0), 0);
        t.carrier(1, 100);
        is("the cart is lighter", t.lightest(0, 0), 1);
        is("the cart cannot come", t.lightest(1, 0), 0);
        t.give(0, 1);
        is("without the one who has it", t.lightest(0, 0), 0);
        t.give(1, 0);
        is("none is left", t.lightest(1, 0), NOT_FOUND);
        t.carrier(0, 100);
        is("the third", t.lightest(1, 0), 2);
        t.giveNone(0);
        t.pause(0, 3, 4);
        is("paused: all the same", t.lightest(0, 3), 0);
        is("not paused", t.lightest(0, 5), 1);
        t.days(1);
        is("past", t.lightest(0, 0), INVALID);
        is("1000", t.lightest(0, 1000), INVALID);
        is("999", t.lightest(0, 999), 1);
        is("house 2", t.lightest(2, 5), INVALID);
        is("house -1", t.lightest(-1, 5), INVALID);
        is("changes nothing", t.houseOf(0, 3), NOT_FOUND);
    }

    private static void lightestOfTrips() {
        promise = 20;
        PaperRounds t = new PaperRounds();
        t.corner(0, 10, 0, 0);
        t.house(1, 2, 0);
        t.house(1, 2, 0);
        t.carrier(0, 10);
        t.carrier(0, 12);
        t.carrier(0, 50);
        t.house(1, 1, 0);
        t.give(0, 0);
        t.give(2, 1);
        // 6 and 6 are two trips of the first, 3 and 6 are one of the second, the third has none yet.
        is("room in the trip", t.lightest(1, 0), 1);
        t.set(0, 2);
        is("room in both", t.lightest(1, 0), 0);
        t.give(1, 0);
        is("not the one who has it", t.lightest(1, 0), 1);
        t.giveNone(1);
        // On the Sunday 6 the 16 of the house are too heavy for the first two: no effort more.
        is("too heavy is no effort", t.lightest(1, 6), 0);
        t.set(0, 6);
        is("too heavy for the first on a week day", t.lightest(1, 0), 0);
        t.set(0, 5);
        // 10 and 10 are two trips of the first, 5 and 10 two of the second, the third walks once.
        is("all the same", t.lightest(1, 0), 0);
        t.corner(1, 40, 0, 0);
        t.house(2, 1, 0);
        t.give(3, 2);
        is("on the way of a long trip", t.lightest(1, 0), 2);
    }

    // A house may shift the others into trips of less effort, so the least may be below 0.
    private static void lightestBelowZero() {
        promise = 20;
        PaperRounds t = new PaperRounds();
        t.corner(0, 1, 0, 0);
        t.corner(0, 50, 0, 0);
        t.carrier(0, 50);
        t.carrier(0, 10);
        t.house(1, 2, 0);
        t.house(1, 1, 0);
        t.house(2, 2, 0);
        t.house(2, 1, 0);
        t.give(1, 1);
        t.give(2, 1);
        t.give(3, 1);
        // Without house 0: 3 + 6, then 3: the far street twice. With it: 6 + 3, then 6 + 3: once.
        is("before", t.round(1, 0, 1), 102 + 100);
        is("the least is below 0", t.lightest(0, 0), 1);
        t.give(0, 1);
        is("after", t.round(1, 0, 1), 2 + 100);
    }

    private static void nextDogs() {
        promise = 21;
        PaperRounds t = new PaperRounds();
        t.house(0, 1, 0);
        is("no dog", t.nextDog(0), NOT_FOUND);
        t.dog(0, 5, 3);
        is("3", t.nextDog(0), 3);
        t.days(3);
        is("the present day", t.nextDog(0), 3);
        t.pause(0, 3, 8);
        is("not paused", t.nextDog(0), 13);
        t.days(1);
        t.pause(0, 10, 997);
        is("998", t.nextDog(0), 998);
        t.pause(0, 998, 998);
        is("none up to 999", t.nextDog(0), NOT_FOUND);
        t.dog(0, 9, 0);
        is("between the pauses", t.nextDog(0), 9);
        t.pause(0, 9, 9);
        is("999", t.nextDog(0), 999);
        is("house 1", t.nextDog(1), INVALID);
        is("house -1", t.nextDog(-1), INVALID);
        PaperRounds late = new PaperRounds();
        late.house(0, 1, 0);
        late.dog(0, 2, 0);
        for (int i = 0; i < 32; i++) {
            late.days(31);
        }
        late.days(8);
        is("after 999", late.nextDog(0), NOT_FOUND);
    }

    private static void accounts() {
        promise = 22;
        PaperRounds t = new PaperRounds();
        t.carrier(0, 12);
        t.house(0, 4, 0);
        t.house(0, 5, 0);
        t.house(0, 3, 0);
        t.house(0, 2, 0);
        t.house(0, 1, 0);
        for (int house = 0; house < 4; house++) {
            t.give(house, 0);
        }
        t.pause(2, 0, 0);
        t.dog(3, 2, 0);
        t.days(1);
        int[] wanted = {15, 4, 3, 2, 5, 1};
        for (int what = 0; what < 6; what++) {
            is("account " + what, t.account(what), wanted[what]);
        }
        is("what 6", t.account(6), INVALID);
        is("what -1", t.account(-1), INVALID);
    }

    private static void counts() {
        promise = 23;
        PaperRounds t = new PaperRounds();
        t.corner(0, 1, 0, 0);
        t.corner(0, 1, 0, 0);
        t.carrier(0, 10);
        t.carrier(0, 10);
        t.house(0, 1, 40);
        t.house(1, 1, 30);
        t.house(2, 1, 20);
        t.give(0, 0);
        t.give(1, 1);
        t.days(7);
        t.pause(0, 7, 8);
        t.pause(0, 7, 9);
        t.pause(2, 8, 9);
        t.set(0, 19);
        t.set(1, 49);
        write(t, "d1;");
        int[] wanted = {3, 3, 2, 3, 7, 1, 1, 7, 70, 4, 3};
        for (int what = 0; what < wanted.length; what++) {
            is("count " + what, t.count(what), wanted[what]);
        }
        is("count 20", t.count(20), 19);
        is("count 21", t.count(21), 49);
        int[] bad = {-1, 11, 12, 19, 22, Integer.MAX_VALUE, Integer.MIN_VALUE};
        for (int what : bad) {
            is("count " + what, t.count(what), INVALID);
        }
    }

    private static void undoing() {
        promise = 24;
        PaperRounds t = new PaperRounds();
        is("empty", t.undo(), NOT_POSSIBLE);
        for (int i = 1; i <= 6; i++) {
            t.house(0, 1, i);
        }
        t.house(0, 6, 0);
        is("at most four", t.count(9), 4);
        is("three left", t.undo(), 3);
        is("five houses", t.count(1), 5);
        is("an undo is no change", t.count(9), 3);
        is("two left", t.undo(), 2);
        t.house(0, 2, 77);
        is("three again", t.count(9), 3);
        is("a new house", t.houseOf(4, 2), 77);
        is("back", t.undo(), 2);
        is("one left", t.undo(), 1);
        is("none left", t.undo(), 0);
        is("two houses", t.count(1), 2);
        is("empty again", t.undo(), NOT_POSSIBLE);
    }

    private static void undoingEverything() {
        promise = 24;
        PaperRounds t = new PaperRounds();
        t.corner(0, 10, 20, 0);
        t.house(1, 2, 100);
        t.carrier(0, 50);
        t.give(0, 0);
        t.dog(0, 2, 0);
        t.biscuits(0, 2);
        write(t, "d7;x");
        t.days(7);
        t.set(0, 9);
        t.set(1, 9);
        t.pause(0, 8, 9);
        is("pause", t.undo(), 3);
        is("weight on Sundays", t.undo(), 2);
        is("weight", t.undo(), 1);
        is("days", t.undo(), 0);
        is("day", t.count(4), 0);
        is("weight", t.count(20), 3);
        is("weight on Sundays", t.count(21), 8);
        is("pauses", t.count(3), 0);
        is("biscuits", t.carrierOf(0, 2), 2);
        is("tips", t.count(8), 0);
        is("complaints", t.count(7), 0);
        for (int what = 4; what < 8; what++) {
            is("carrierOf 0 " + what, t.carrierOf(0, what), 0);
        }
        for (int what = 6; what < 12; what++) {
            is("houseOf 0 " + what, t.houseOf(0, what), 0);
        }
        for (int what = 0; what < 6; what++) {
            is("account " + what, t.account(what), 0);
        }
        is("the text stays", t.count(10), 4);
        is("its fault too", t.fault(0), 3);
        t.days(7);
        is("half the tip, of complaints on the days 4 and 6 none", t.count(8), 0);
        is("complaints", t.count(7), 2);
        PaperRounds names = new PaperRounds();
        names.carrier(1, 20);
        names.house(0, 1, 1);
        names.give(0, 0);
        names.biscuits(0, 5);
        names.days(7);
        names.undo();
        names.undo();
        names.undo();
        names.undo();
        names.house(0, 3, 3);
        is("nothing of the old house", names.houseOf(0, 3), NOT_FOUND);
        is("nothing of its papers", names.shareBits(0), NOT_FOUND);
    }

    // A town in which every answer that a change can change is something else than at first.
    private static PaperRounds busyTown() {
        PaperRounds t = new PaperRounds();
        t.corner(0, 10, 20, 0);
        t.corner(1, 5, 7, 1);
        t.corner(0, 8, 30, 0);
        t.house(1, 2, 101);
        t.house(2, 3, 60);
        t.house(3, 1, 40);
        t.carrier(0, 16);
        t.carrier(1, 25);
        t.give(0, 0);
        t.give(1, 0);
        t.give(2, 1);
        t.dog(0, 4, 3);
        t.dog(2, 5, 1);
        t.biscuits(0, 1);
        t.biscuits(1, 3);
        t.set(0, 4);
        t.pause(1, 2, 3);
        t.days(9);
        t.pause(0, 11, 12);
        return t;
    }

    // Every answer about the town but that of the history; the text has answers of its own.
    private static int[] picture(PaperRounds t) {
        int[] answers = new int[260];
        int at = 0;
        for (int what = 0; what <= 21; what++) {
            answers[at++] = what == 9 || what == 10 ? 0 : t.count(what);
        }
        for (int what = 0; what <= 5; what++) {
            answers[at++] = t.account(what);
        }
        for (int corner = 0; corner <= 4; corner++) {
            for (int what = 0; what <= 6; what++) {
                answers[at++] = t.cornerOf(corner, what);
            }
        }
        for (int house = 0; house <= 3; house++) {
            for (int what = 0; what <= 11; what++) {
                answers[at++] = t.houseOf(house, what);
            }
            answers[at++] = t.shareBits(house);
            answers[at++] = t.nextDog(house);
            answers[at++] = t.lightest(house, 900);
        }
        answers[at++] = t.meanBits();
        for (int carrier = 0; carrier <= 2; carrier++) {
            for (int what = 0; what <= 7; what++) {
                answers[at++] = t.carrierOf(carrier, what);
            }
            for (int index = 0; index <= 3; index++) {
                answers[at++] = t.roundAt(carrier, index);
            }
            for (int what = 0; what <= 3; what++) {
                answers[at++] = t.round(carrier, 11, what);
                answers[at++] = t.round(carrier, 13, what);
                answers[at++] = t.round(carrier, 902, what);
            }
        }
        for (int pause = 0; pause <= 2; pause++) {
            for (int what = 0; what <= 2; what++) {
                answers[at++] = t.pauseOf(pause, what);
            }
        }
        return answers;
    }

    private static int differences(int[] one, int[] other) {
        int found = 0;
        for (int i = 0; i < one.length; i++) {
            if (one[i] != other[i]) {
                found++;
            }
        }
        return found;
    }

    private static final int KINDS = 14;

    private static int change(PaperRounds t, int kind) {
        switch (kind) {
            case 0: return t.corner(2, 9, 3, 0);
            case 1: return t.house(2, 4, 7);
            case 2: return t.dog(0, 9, 8);
            case 3: return t.dog(2, 0, 0);
            case 4: return t.dog(1, 2, 0);
            case 5: return t.pause(2, 9, 13);
            case 6: return t.carrier(1, 99);
            case 7: return t.give(0, 1);
            case 8: return t.giveNone(1);
            case 9: return t.biscuits(0, 44);
            case 10: return t.set(0, 1);
            case 11: return t.set(1, 1);
            case 12: return t.days(1);
            default: return t.days(6);
        }
    }

    // After an undo the answers are those of a town that never saw the change, also a week later.
    private static void undoingEachKind() {
        promise = 24;
        int[] before = picture(busyTown());
        PaperRounds later = busyTown();
        later.days(7);
        int[] week = picture(later);
        for (int kind = 0; kind < KINDS; kind++) {
            PaperRounds seen = busyTown();
            is("kind " + kind + " has no error", change(seen, kind) < 0 ? 1 : 0, 0);
            is("kind " + kind + " changes something", differences(picture(seen), before) > 0 ? 1 : 0, 1);
            PaperRounds t = busyTown();
            change(t, kind);
            is("undo of kind " + kind, t.undo(), 3);
            is("answers that stay wrong after kind " + kind, differences(picture(t), before), 0);
            t.days(7);
            is("answers wrong a week after kind " + kind, differences(picture(t), week), 0);
        }
        PaperRounds all = busyTown();
        for (int kind = 5; kind < 9; kind++) {
            change(all, kind);
        }
        for (int left = 3; left >= 0; left--) {
            is("undo of four", all.undo(), left);
        }
        is("answers that stay wrong after four", differences(picture(all), before), 0);
    }

    // The orders of a text are tried out and played without a trace, but for what they are to change.
    private static void undoingOrders() {
        promise = 28;
        String[] texts = {"p2,9,13;", "g0,1;", "n1;", "b0,44;", "d1;", "d6;", ""};
        int[] same = {5, 7, 8, 9, 12, 13, -1};
        int[] before = picture(busyTown());
        for (int i = 0; i < texts.length; i++) {
            PaperRounds called = busyTown();
            if (same[i] >= 0) {
                change(called, same[i]);
            }
            int[] after = picture(called);
            PaperRounds t = busyTown();
            write(t, texts[i]);
            is("no fault of " + texts[i], t.fault(0), NOT_FOUND);
            is("answers wrong after a fault of " + texts[i], differences(picture(t), before), 0);
            is("play of " + texts[i], t.play(), same[i] >= 0 ? 1 : 0);
            is("answers wrong after a play of " + texts[i], differences(picture(t), after), 0);
            is("undo of " + texts[i], t.undo(), 3);
            PaperRounds u = busyTown();
            write(u, texts[i]);
            u.play();
            u.undo();
            is("answers wrong after the undo of " + texts[i], differences(picture(u), before), 0);
            PaperRounds v = busyTown();
            write(v, texts[i] + "n9;");
            is("play with a fault behind " + texts[i], v.play(), NOT_POSSIBLE);
            is("answers wrong after it", differences(picture(v), before), 0);
        }
    }

    // What is added after an undo takes the numbers of what was undone, but nothing else of it.
    private static void addingAgain() {
        promise = 24;
        PaperRounds t = new PaperRounds();
        t.corner(0, 3, 5, 0);
        t.carrier(0, 12);
        t.house(1, 1, 50);
        t.give(0, 0);
        t.dog(0, 2, 1);
        write(t, "d10;b0,3;p0,11,11;d1;d1;d1;d2;n0;d1;d10;");
        is("much happens", t.play(), 10);
        is("complaints", t.houseOf(0, 10) > 0 ? 1 : 0, 1);
        is("paused", t.houseOf(0, 7), 1);
        for (int left = 3; left >= 0; left--) {
            is("undo", t.undo(), left);
        }
        is("no house", t.count(1), 0);
        is("the carrier is there", t.count(2), 1);
        is("house", t.house(0, 2, 9), 0);
        int[] house = {0, 2, 9, NOT_FOUND, NOT_FOUND, 0, 0, 0, 0, 0, 0, 0};
        for (int what = 0; what < house.length; what++) {
            is("houseOf 0 " + what + " of the new house", t.houseOf(0, what), house[what]);
        }
        int[] carrier = {0, 12, 0, 0, 0, 0, 0, 0};
        for (int what = 0; what < carrier.length; what++) {
            is("carrierOf 0 " + what, t.carrierOf(0, what), carrier[what]);
        }
        t.days(3);
        t.give(0, 0);
        t.days(4);
        is("tip after complaints of its own alone", t.count(8), 0);
        is("nothing of the tip of the old house", t.carrierOf(0, 6), 0);
        PaperRounds u = new PaperRounds();
        u.corner(0, 3, 5, 0);
        u.house(1, 1, 50);
        u.carrier(1, 12);
        write(u, "g0,0;b0,9;d31;");
        u.play();
        is("trips", u.carrierOf(0, 4), 31);
        u.undo();
        u.undo();
        is("carrier", u.carrier(0, 500), 0);
        int[] other = {0, 500, 0, 0, 0, 0, 0, 0};
        for (int what = 0; what < other.length; what++) {
            is("carrierOf 0 " + what + " of the new carrier", u.carrierOf(0, what), other[what]);
        }
    }

    // What is since the last Sunday is told of the house that is there now, not of one that was undone.
    private static void weekOfANewHouse() {
        promise = 24;
        PaperRounds t = new PaperRounds();
        t.carrier(0, 100);
        t.house(0, 1, 100);
        t.days(2);
        is("two complaints", t.houseOf(0, 11), 2);
        t.undo();
        t.undo();
        t.house(0, 1, 90);
        t.give(0, 0);
        t.days(7);
        is("no complaint of the new one", t.count(8), 90);
        PaperRounds u = new PaperRounds();
        u.carrier(0, 100);
        u.house(0, 1, 100);
        u.give(0, 0);
        u.days(2);
        u.undo();
        u.undo();
        u.undo();
        u.house(0, 1, 90);
        u.give(0, 0);
        u.pause(0, 0, 6);
        u.days(7);
        is("nothing was delivered to the new one", u.count(8), 0);
    }

    private static void undoingTheWeek() {
        promise = 24;
        PaperRounds t = new PaperRounds();
        t.house(0, 1, 100);
        t.carrier(0, 100);
        t.give(0, 0);
        t.days(1);
        is("undo", t.undo(), 3);
        t.pause(0, 0, 6);
        t.days(7);
        is("nothing was delivered after all", t.count(8), 0);
        is("undo", t.undo(), 3);
        is("undo of the pause", t.undo(), 2);
        t.days(2);
        t.giveNone(0);
        t.days(2);
        is("undo of two complaints", t.undo(), 3);
        is("undo of taking it away", t.undo(), 2);
        t.days(5);
        is("the two days before count", t.count(8), 100);
    }

    private static void undoingTheOrder() {
        promise = 24;
        PaperRounds t = new PaperRounds();
        t.carrier(0, 100);
        t.corner(0, 1, 0, 0);
        t.corner(0, 1, 0, 0);
        t.house(2, 1, 0);
        t.house(1, 1, 0);
        t.corner(1, 1, 0, 0);
        is("undo", t.undo(), 3);
        t.house(2, 1, 0);
        t.house(1, 1, 0);
        for (int house = 0; house < 4; house++) {
            t.give(house, 0);
        }
        int[] wanted = {1, 3, 0, 2, NOT_FOUND};
        for (int index = 0; index < wanted.length; index++) {
            is("roundAt 0 " + index, t.roundAt(0, index), wanted[index]);
        }
        is("undo", t.undo(), 3);
        is("corner 3", t.corner(2, 1, 0, 0), 3);
        is("house 4", t.house(3, 1, 0), 4);
        is("house 4 given", t.give(4, 0), 4);
        int[] then = {1, 0, 2, 4, NOT_FOUND};
        for (int index = 0; index < then.length; index++) {
            is("then roundAt 0 " + index, t.roundAt(0, index), then[index]);
        }
    }

    // As many of all as there can be.
    private static void fullTown() {
        promise = 23;
        PaperRounds t = new PaperRounds();
        for (int corner = 1; corner < 20; corner++) {
            t.corner(corner - 1, 50, corner % 2 * 100, 0);
        }
        for (int house = 0; house < 24; house++) {
            t.house(house < 19 ? 19 - house : 19, 1, 1);
        }
        for (int carrier = 0; carrier < 3; carrier++) {
            t.carrier(1, 500);
        }
        for (int house = 0; house < 24; house++) {
            is("give " + house, t.give(house, house % 2), house / 2 + 1);
        }
        for (int pause = 0; pause < 30; pause++) {
            is("pause " + pause, t.pause(23, 2 * pause, 2 * pause), pause);
        }
        int[] counts = {20, 24, 3, 30, 0, 0, 1, 0, 0, 4, 0};
        for (int what = 0; what < counts.length; what++) {
            is("count " + what, t.count(what), counts[what]);
        }
        is("the farthest", t.cornerOf(19, 4), 950);
        is("houses from the depot", t.cornerOf(0, 5), 24);
        is("houses at the end", t.cornerOf(19, 5), 6);
        is("first of the round", t.roundAt(0, 0), 18);
        is("last of the round", t.roundAt(0, 11), 22);
        is("no more", t.roundAt(0, 12), NOT_FOUND);
        is("first of the other", t.roundAt(1, 0), 17);
        is("no house of the third", t.roundAt(2, 0), NOT_FOUND);
        is("lightest", t.lightest(23, 0), 0);
        is("the last day", t.pauseOf(29, 2), 58);
        is("a day", t.days(1), 23);
        is("a week", t.days(6), 6 * 24 - 3);
        is("tips", t.count(8), 24);
        is("mean", t.meanBits(), Float.floatToIntBits(1.0f));
        is("undo", t.undo(), 3);
        is("day", t.count(4), 1);
        write(t, "d1;g23,2;n23;b2,99;");
        is("play", t.play(), 4);
        is("again", t.play(), 4);
        is("undo", t.undo(), 3);
        is("biscuits", t.carrierOf(2, 2), 99);
    }

    private static void typing() {
        promise = 25;
        PaperRounds t = new PaperRounds();
        is("31", t.type(31), INVALID);
        is("127", t.type(127), INVALID);
        is("-1", t.type(-1), INVALID);
        is("a char's worth too far", t.type(65536 + 65), INVALID);
        is("32", t.type(32), 1);
        is("126", t.type(126), 2);
        for (int length = 3; length <= 60; length++) {
            is("59", t.type(59), length);
        }
        is("the 61st", t.type(59), LIMIT);
        is("the 61st, wrong", t.type(127), INVALID);
        is("length", t.count(10), 60);
        is("no change", t.count(9), 0);
    }

    private static void clearing() {
        promise = 26;
        PaperRounds t = new PaperRounds();
        is("empty", t.clearText(), 0);
        write(t, "abc");
        is("three", t.clearText(), 3);
        is("length", t.count(10), 0);
        is("again", t.clearText(), 0);
        is("no change", t.count(9), 0);
        is("no fault", t.fault(0), NOT_FOUND);
    }

    private static PaperRounds smallTown() {
        PaperRounds t = new PaperRounds();
        t.corner(0, 1, 0, 1);
        t.house(0, 1, 0);
        t.house(1, 1, 0);
        t.carrier(1, 50);
        return t;
    }

    private static void formFaults() {
        promise = 27;
        PaperRounds t = smallTown();
        String[] bad = {
            "x", ";", " ", "d", "d;", "d1", "d1,", "d1 ;", "d 1;", "d0001;", "d1234;", "d-1;", "d+1;", "D1;",
            "p", "p0", "p0,", "p0,1", "p0,1,", "p0,1,2", "p0,1;", "p0,1,2,", "p0,1,2,3;", "p0;1,2;", "p,1,2;",
            "g0;", "g0,", "g0,0", "g0,0,", "g,0;", "g0,,0;", "n;", "n0,0;", "n0", "b0;", "b0,;", "b0,1", "b0,1,",
            "0;", "d1:", "n/;", "n:;", "d1a;"};
        for (String text : bad) {
            faultIs(smallTown(), text, 0, 1, NOT_FOUND);
            if (text.length() < 50) {
                faultIs(smallTown(), "d1;d001;" + text, 8, 1, NOT_FOUND);
            }
        }
        faultIs(t, "d1;;", 3, 1, NOT_FOUND);
        faultIs(t, "d1; ", 3, 1, NOT_FOUND);
        is("what 3", t.fault(3), INVALID);
        is("what -1", t.fault(-1), INVALID);
        t.clearText();
        is("empty", t.fault(0), NOT_FOUND);
        is("empty", t.fault(1), NOT_FOUND);
        is("empty", t.fault(2), NOT_FOUND);
        is("wrong with an empty text", t.fault(3), INVALID);
        write(t, "p000,000,999;g0,0;n000;b00,09;d31;d1;");
        is("no fault", t.fault(0), NOT_FOUND);
        is("no fault", t.fault(1), NOT_FOUND);
        is("no fault", t.fault(2), NOT_FOUND);
        is("nothing was done", t.count(4), 0);
        is("nothing was paused", t.count(3), 0);
    }

    private static void callFaults() {
        promise = 27;
        faultIs(smallTown(), "d0;", 0, 2, INVALID);
        faultIs(smallTown(), "d32;", 0, 2, INVALID);
        faultIs(smallTown(), "d31;d999;", 4, 2, INVALID);
        faultIs(smallTown(), "g0,0;g0,0;", 5, 2, NOT_POSSIBLE);
        faultIs(smallTown(), "g1,0;", 0, 2, NOT_POSSIBLE);
        faultIs(smallTown(), "g2,0;", 0, 2, INVALID);
        faultIs(smallTown(), "g0,1;", 0, 2, INVALID);
        faultIs(smallTown(), "n0;", 0, 2, NOT_POSSIBLE);
        faultIs(smallTown(), "g0,0;n0;n0;", 8, 2, NOT_POSSIBLE);
        faultIs(smallTown(), "n2;", 0, 2, INVALID);
        faultIs(smallTown(), "b0,0;", 0, 2, INVALID);
        faultIs(smallTown(), "b0,100;", 0, 2, INVALID);
        faultIs(smallTown(), "b1,9;", 0, 2, INVALID);
        faultIs(smallTown(), "b0,99;b0,99;b0,99;b0,99;b0,99;b0,6;x", 30, 2, LIMIT);
        faultIs(smallTown(), "b0,99;b0,99;b0,99;b0,99;b0,99;b0,5;x", 35, 1, NOT_FOUND);
        faultIs(smallTown(), "p0,1,0;", 0, 2, INVALID);
        faultIs(smallTown(), "p2,1,2;", 0, 2, INVALID);
        faultIs(smallTown(), "d5;p0,4,9;", 3, 2, INVALID);
        faultIs(smallTown(), "p0,5,9;d9;p0,9,9;d1;p0,9,9;x", 20, 2, INVALID);
        String days = "d1;".repeat(19);
        faultIs(smallTown(), days + "d12", 57, 1, NOT_FOUND);
        faultIs(smallTown(), days + "d1 ", 57, 1, NOT_FOUND);
        faultIs(smallTown(), days + "n00", 57, 1, NOT_FOUND);
        faultIs(smallTown(), days + "p", 57, 1, NOT_FOUND);
        faultIs(smallTown(), days + "d0;", 57, 2, INVALID);
        // The first fault counts, and it depends on what was done ahead of it.
        faultIs(smallTown(), "n0;x", 0, 2, NOT_POSSIBLE);
        faultIs(smallTown(), "x;n0;", 0, 1, NOT_FOUND);
        PaperRounds t = smallTown();
        for (int i = 0; i < 30; i++) {
            t.pause(0, i, i);
        }
        faultIs(t, "p0,0,0;", 0, 2, LIMIT);
        for (int i = 0; i < 32; i++) {
            t.days(31);
        }
        faultIs(t, "d7;d2;", 3, 2, LIMIT);
        is("day", t.count(4), 992);
    }

    private static void playing() {
        promise = 28;
        PaperRounds t = smallTown();
        is("empty", t.play(), 0);
        is("one change", t.count(9), 4);
        PaperRounds fresh = new PaperRounds();
        is("empty", fresh.play(), 0);
        is("one change of an empty text", fresh.count(9), 1);
        is("undone", fresh.undo(), 0);
        write(t, "g0,0;b0,7;p0,2,2;d3;n0;d001;");
        is("six orders", t.play(), 6);
        is("day", t.count(4), 4);
        is("carrier", t.houseOf(0, 3), NOT_FOUND);
        is("biscuits", t.carrierOf(0, 2), 7);
        is("delivered", t.houseOf(0, 6), 2);
        is("paused", t.houseOf(0, 7), 1);
        is("lost", t.houseOf(0, 9), 1);
        is("the text stays", t.count(10), 28);
        is("a pause too late now", t.play(), NOT_POSSIBLE);
        is("nothing changed", t.carrierOf(0, 2), 7);
        is("no state more", t.count(9), 4);
        is("one undo", t.undo(), 3);
        is("day", t.count(4), 0);
        is("biscuits", t.carrierOf(0, 2), 0);
        is("the text stays here too", t.count(10), 28);
        is("again", t.play(), 6);
        write(t, "b0,1;q");
        is("with a fault", t.play(), NOT_POSSIBLE);
        is("nothing of it was done", t.carrierOf(0, 2), 7);
        write(t, "d1;d1;d1;d1;d1;d1;d1;d1;d1;d1;d1;d1;d1;d1;d1;d1;d1;d1;d1;d1;");
        is("twenty orders", t.play(), 20);
        is("day", t.count(4), 24);
    }
}
