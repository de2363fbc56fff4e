import java.util.ArrayList;
import java.util.List;

/**
 * Refused calls: each argument below and above its range and far outside of it, each fixed limit, each
 * order of errors of the document, and that a refused call changes nothing, the history included.
 */
public final class RefusalTest {
    private static final int INVALID = -1;
    private static final int NOT_POSSIBLE = -2;
    private static final int LIMIT = -3;
    private static final int NOT_FOUND = -4;

    private interface Maker {
        PaperRounds make();
    }

    private interface Call {
        int on(PaperRounds town, int value);
    }

    private static String subject = "";
    private static int checks = 0;
    private static int wrong = 0;

    private static void is(String call, int got, int want) {
        checks++;
        if (got != want) {
            wrong++;
            System.out.println(subject + ": " + call + " answered " + got + ", due is " + want);
        }
    }

    public static void main(String[] args) {
        subject = "ranges";
        rangesOfChanges();
        rangesOfQuestions();
        rangesOfSettings();
        rangesOfTheLastDays();
        numbersInAnEmptyTown();
        numbersAfterAnUndo();
        subject = "limits";
        limitOfCorners();
        limitOfHouses();
        limitOfPauses();
        limitOfCarriers();
        limitOfBiscuits();
        limitOfDays();
        limitOfTheText();
        subject = "not possible";
        notPossible();
        subject = "order of errors";
        orderOfErrors();
        System.out.println(checks + " checks of refusals, " + wrong + " wrong");
        if (wrong > 0) {
            System.exit(1);
        }
    }

    // ---- towns

    private static void write(PaperRounds t, String text) {
        for (int i = 0; i < text.length(); i++) {
            t.type(text.charAt(i));
        }
    }

    // The day is 5, the history is full, and its four states differ from one another and from the town.
    private static PaperRounds busy() {
        PaperRounds t = new PaperRounds();
        t.corner(0, 10, 20, 0);
        t.corner(1, 5, 7, 1);
        t.house(1, 2, 101);
        t.house(2, 3, 60);
        t.house(0, 1, 40);
        t.carrier(0, 16);
        t.carrier(1, 25);
        t.give(0, 0);
        t.give(1, 0);
        t.dog(0, 4, 3);
        t.biscuits(0, 1);
        t.days(3);
        t.pause(2, 4, 6);
        t.set(0, 4);
        t.days(2);
        t.pause(0, 11, 12);
        t.biscuits(1, 7);
        write(t, "d1;x");
        return t;
    }

    private static void goTo(PaperRounds t, int day) {
        while (t.count(4) < day) {
            t.days(Math.min(31, day - t.count(4)));
        }
    }

    private static PaperRounds lastDay() {
        PaperRounds t = busy();
        goTo(t, 999);
        return t;
    }

    private static PaperRounds dayAfterTheLast() {
        PaperRounds t = busy();
        goTo(t, 1000);
        return t;
    }

    // ---- pictures of a town

    private static List<Integer> picture(PaperRounds t) {
        List<Integer> p = new ArrayList<>();
        for (int what = 0; what <= 21; what++) {
            p.add(t.count(what));
        }
        for (int what = 0; what <= 5; what++) {
            p.add(t.account(what));
        }
        for (int corner = t.count(0) - 2; corner < t.count(0); corner++) {
            for (int what = 0; what <= 6; what++) {
                p.add(t.cornerOf(corner, what));
            }
        }
        for (int house = 0; house < t.count(1) && house < 3; house++) {
            for (int what = 0; what <= 11; what++) {
                p.add(t.houseOf(house, what));
            }
            p.add(t.shareBits(house));
            p.add(t.nextDog(house));
            p.add(t.lightest(house, 999));
        }
        for (int carrier = 0; carrier < t.count(2); carrier++) {
            for (int what = 0; what <= 7; what++) {
                p.add(t.carrierOf(carrier, what));
            }
            for (int what = 0; what <= 3; what++) {
                p.add(t.round(carrier, 998, what));
            }
            p.add(t.roundAt(carrier, 0));
            p.add(t.roundAt(carrier, 1));
        }
        for (int pause = 0; pause < t.count(3) && pause < 3; pause++) {
            for (int what = 0; what <= 2; what++) {
                p.add(t.pauseOf(pause, what));
            }
        }
        p.add(t.meanBits());
        p.add(t.fault(0));
        p.add(t.fault(1));
        p.add(t.fault(2));
        return p;
    }

    // What tells the states of these towns from one another.
    private static List<Integer> history(PaperRounds t) {
        List<Integer> p = new ArrayList<>();
        for (int left = t.undo(); left >= 0; left = t.undo()) {
            p.add(left);
            for (int what = 0; what <= 21; what++) {
                p.add(t.count(what));
            }
            for (int what = 0; what <= 5; what++) {
                p.add(t.account(what));
            }
            p.add(t.carrierOf(0, 2));
            p.add(t.carrierOf(0, 5));
            p.add(t.carrierOf(1, 2));
            p.add(t.houseOf(0, 3));
            p.add(t.houseOf(0, 4));
            p.add(t.houseOf(1, 3));
        }
        return p;
    }

    private static void refused(String name, Maker towns, Call call, int value, int error) {
        PaperRounds t = towns.make();
        is(name, call.on(t, value), error);
        is(name + ", is the town the same", picture(t).equals(picture(towns.make())) ? 1 : 0, 1);
        PaperRounds u = towns.make();
        call.on(u, value);
        is(name + ", are the states the same", history(u).equals(history(towns.make())) ? 1 : 0, 1);
    }

    // ---- ranges

    private static void range(String name, Maker towns, int low, int high, Call call) {
        is(name + " of " + low + " is in its range", call.on(towns.make(), low) == INVALID ? 1 : 0, 0);
        is(name + " of " + high + " is in its range", call.on(towns.make(), high) == INVALID ? 1 : 0, 0);
        long[] outside = {
            low - 1L, high + 1L, Integer.MIN_VALUE, Integer.MAX_VALUE, low - 256L, high + 256L, low - 65536L,
            high + 65536L, low + (1L << 30), low - (1L << 30), Integer.MIN_VALUE + (long) high};
        for (long each : outside) {
            int value = (int) each;
            if (each == value && (value < low || value > high)) {
                refused(name + " of " + value, towns, call, value, INVALID);
            }
        }
    }

    private static void rangesOfChanges() {
        Maker b = RefusalTest::busy;
        range("corner ahead", b, 0, 2, (t, v) -> t.corner(v, 1, 0, 0));
        range("corner length", b, 1, 50, (t, v) -> t.corner(0, v, 0, 0));
        range("corner height", b, 0, 100, (t, v) -> t.corner(0, 1, v, 0));
        range("corner stairs", b, 0, 1, (t, v) -> t.corner(0, 1, 0, v));
        range("house corner", b, 0, 2, (t, v) -> t.house(v, 1, 0));
        range("house papers", b, 1, 5, (t, v) -> t.house(0, v, 0));
        range("house tip", b, 0, 500, (t, v) -> t.house(0, 1, v));
        range("dog house", b, 0, 2, (t, v) -> t.dog(v, 2, 0));
        range("dog period", b, 2, 9, (t, v) -> t.dog(1, v == 0 ? 1 : v, 0));
        is("dog period 0 of a house without one", busy().dog(1, 0, 0), 0);
        is("dog period 0 of a house with one", busy().dog(0, 0, 0), 4);
        refused("dog period 1", b, (t, v) -> t.dog(0, v, 0), 1, INVALID);
        refused("dog period -1", b, (t, v) -> t.dog(0, v, 0), -1, INVALID);
        range("dog phase", b, 0, 8, (t, v) -> t.dog(0, 9, v));
        range("dog phase of a period below it", b, 0, 8, (t, v) -> t.dog(0, 2, v));
        range("dog phase without a dog", b, 0, 8, (t, v) -> t.dog(0, 0, v));
        range("pause house", b, 0, 2, (t, v) -> t.pause(v, 5, 5));
        range("pause first", b, 5, 999, (t, v) -> t.pause(0, v, 999));
        range("pause first with a last of it", b, 5, 999, (t, v) -> t.pause(0, v, v));
        range("pause last", b, 7, 999, (t, v) -> t.pause(0, 7, v));
        range("carrier cart", b, 0, 1, (t, v) -> t.carrier(v, 10));
        range("carrier limit", b, 10, 500, (t, v) -> t.carrier(0, v));
        range("give house", b, 0, 2, (t, v) -> t.give(v, 0));
        range("give carrier", b, 0, 1, (t, v) -> t.give(2, v));
        range("giveNone house", b, 0, 2, (t, v) -> t.giveNone(v));
        range("biscuits carrier", b, 0, 1, (t, v) -> t.biscuits(v, 1));
        range("biscuits many", b, 1, 99, (t, v) -> t.biscuits(0, v));
        range("days", b, 1, 31, (t, v) -> t.days(v));
        range("type", b, 32, 126, (t, v) -> t.type(v));
    }

    private static void rangesOfQuestions() {
        Maker b = RefusalTest::busy;
        range("cornerOf corner", b, 0, 2, (t, v) -> t.cornerOf(v, 2));
        range("cornerOf what", b, 0, 6, (t, v) -> t.cornerOf(1, v));
        range("cornerOf what of the depot", b, 0, 6, (t, v) -> t.cornerOf(0, v));
        range("houseOf house", b, 0, 2, (t, v) -> t.houseOf(v, 0));
        range("houseOf what", b, 0, 11, (t, v) -> t.houseOf(2, v));
        range("shareBits house", b, 0, 2, (t, v) -> t.shareBits(v));
        range("carrierOf carrier", b, 0, 1, (t, v) -> t.carrierOf(v, 0));
        range("carrierOf what", b, 0, 7, (t, v) -> t.carrierOf(0, v));
        range("pauseOf pause", b, 0, 1, (t, v) -> t.pauseOf(v, 0));
        range("pauseOf what", b, 0, 2, (t, v) -> t.pauseOf(1, v));
        range("roundAt carrier", b, 0, 1, (t, v) -> t.roundAt(v, 0));
        range("roundAt index", b, 0, Integer.MAX_VALUE, (t, v) -> t.roundAt(0, v));
        range("round carrier", b, 0, 1, (t, v) -> t.round(v, 5, 0));
        range("round day", b, 5, 999, (t, v) -> t.round(0, v, 0));
        range("round what", b, 0, 3, (t, v) -> t.round(0, 5, v));
        range("lightest house", b, 0, 2, (t, v) -> t.lightest(v, 5));
        range("lightest day", b, 5, 999, (t, v) -> t.lightest(0, v));
        range("nextDog house", b, 0, 2, (t, v) -> t.nextDog(v));
        range("account what", b, 0, 5, (t, v) -> t.account(v));
        range("count what from 0", b, 0, 10, (t, v) -> v == 20 || v == 21 ? INVALID : t.count(v));
        range("count what from 20", b, 20, 21, (t, v) -> v >= 0 && v <= 10 ? INVALID : t.count(v));
        for (int what = 11; what < 20; what++) {
            refused("count " + what, b, (t, v) -> t.count(v), what, INVALID);
        }
        range("fault what", b, 0, 2, (t, v) -> t.fault(v));
    }

    private static void rangesOfSettings() {
        Maker b = RefusalTest::busy;
        range("set what", b, 0, 1, (t, v) -> t.set(v, 5));
        range("set what with a weight of Sundays alone", b, 1, 1, (t, v) -> t.set(v, 21));
        range("set 0", b, 1, 20, (t, v) -> t.set(0, v));
        range("set 1", b, 1, 50, (t, v) -> t.set(1, v));
        refused("set of what 20", b, (t, v) -> t.set(v, 5), 20, INVALID);
        refused("set of what 21", b, (t, v) -> t.set(v, 5), 21, INVALID);
        is("set 0 tells what it was", busy().set(0, 1), 4);
        is("set 1 tells what it was", busy().set(1, 1), 8);
    }

    // On the day 999 one day is left, on the day 1000 none.
    private static void rangesOfTheLastDays() {
        Maker last = RefusalTest::lastDay;
        range("pause first on the day 999", last, 999, 999, (t, v) -> t.pause(0, v, 999));
        range("pause last on the day 999", last, 999, 999, (t, v) -> t.pause(0, 999, v));
        range("round day on the day 999", last, 999, 999, (t, v) -> t.round(0, v, 0));
        range("lightest day on the day 999", last, 999, 999, (t, v) -> t.lightest(0, v));
        Maker none = RefusalTest::dayAfterTheLast;
        int[] days = {998, 999, 1000, 1001, 0, -1, Integer.MAX_VALUE, Integer.MIN_VALUE};
        for (int day : days) {
            refused("pause on the day 1000 from " + day, none, (t, v) -> t.pause(0, v, 999), day, INVALID);
            refused("pause on the day 1000 to " + day, none, (t, v) -> t.pause(0, 1000, v), day, INVALID);
            refused("round on the day 1000 of " + day, none, (t, v) -> t.round(0, v, 0), day, INVALID);
            refused("lightest on the day 1000 of " + day, none, (t, v) -> t.lightest(0, v), day, INVALID);
        }
    }

    private static void numbersInAnEmptyTown() {
        Maker empty = PaperRounds::new;
        for (int number = -1; number <= 1; number++) {
            refused("carrier " + number + " of house 0", empty, (t, v) -> t.give(0, v), number, INVALID);
            refused("dog " + number, empty, (t, v) -> t.dog(v, 2, 0), number, INVALID);
            refused("pause " + number, empty, (t, v) -> t.pause(v, 0, 0), number, INVALID);
            refused("give " + number, empty, (t, v) -> t.give(v, 0), number, INVALID);
            refused("giveNone " + number, empty, (t, v) -> t.giveNone(v), number, INVALID);
            refused("biscuits " + number, empty, (t, v) -> t.biscuits(v, 1), number, INVALID);
            refused("houseOf " + number, empty, (t, v) -> t.houseOf(v, 0), number, INVALID);
            refused("shareBits " + number, empty, (t, v) -> t.shareBits(v), number, INVALID);
            refused("carrierOf " + number, empty, (t, v) -> t.carrierOf(v, 0), number, INVALID);
            refused("pauseOf " + number, empty, (t, v) -> t.pauseOf(v, 0), number, INVALID);
            refused("roundAt " + number, empty, (t, v) -> t.roundAt(v, 0), number, INVALID);
            refused("round " + number, empty, (t, v) -> t.round(v, 0, 0), number, INVALID);
            refused("lightest " + number, empty, (t, v) -> t.lightest(v, 0), number, INVALID);
            refused("nextDog " + number, empty, (t, v) -> t.nextDog(v), number, INVALID);
        }
        refused("meanBits of no house", empty, (t, v) -> t.meanBits(), 0, NOT_FOUND);
        refused("undo of no change", empty, (t, v) -> t.undo(), 0, NOT_POSSIBLE);
        refused("fault of no text", empty, (t, v) -> t.fault(v), 0, NOT_FOUND);
        refused("cornerOf 1", empty, (t, v) -> t.cornerOf(v, 2), 1, INVALID);
        refused("a corner beyond 1", empty, (t, v) -> t.corner(v, 1, 0, 0), 1, INVALID);
        refused("a house at 1", empty, (t, v) -> t.house(v, 1, 0), 1, INVALID);
    }

    // What an undone change added is not there any more.
    private static PaperRounds emptied() {
        PaperRounds t = new PaperRounds();
        t.corner(0, 1, 0, 0);
        t.house(1, 1, 0);
        t.carrier(0, 10);
        t.pause(0, 0, 0);
        while (t.count(9) > 0) {
            t.undo();
        }
        return t;
    }

    private static void numbersAfterAnUndo() {
        Maker e = RefusalTest::emptied;
        refused("corner beyond 1", e, (t, v) -> t.corner(1, 1, 0, 0), 0, INVALID);
        refused("house at 1", e, (t, v) -> t.house(1, 1, 0), 0, INVALID);
        refused("dog of 0", e, (t, v) -> t.dog(0, 2, 0), 0, INVALID);
        refused("pause of 0", e, (t, v) -> t.pause(0, 0, 0), 0, INVALID);
        refused("give 0", e, (t, v) -> t.give(0, 0), 0, INVALID);
        refused("biscuits of 0", e, (t, v) -> t.biscuits(0, 1), 0, INVALID);
        refused("cornerOf 1", e, (t, v) -> t.cornerOf(1, 2), 0, INVALID);
        refused("houseOf 0", e, (t, v) -> t.houseOf(0, 0), 0, INVALID);
        refused("carrierOf 0", e, (t, v) -> t.carrierOf(0, 0), 0, INVALID);
        refused("pauseOf 0", e, (t, v) -> t.pauseOf(0, 0), 0, INVALID);
        refused("roundAt 0", e, (t, v) -> t.roundAt(0, 0), 0, INVALID);
        refused("nextDog 0", e, (t, v) -> t.nextDog(0), 0, INVALID);
    }

    // ---- limits

    // The first of these calls add what is there at most, the next one is refused, and after an undo one more is taken.
    private static void limit(String name, int free, Call add) {
        PaperRounds t = busy();
        for (int i = 0; i < free; i++) {
            is(name + " " + i + " ahead of the limit is taken", add.on(t, i) < 0 ? 1 : 0, 0);
        }
        Maker full = () -> {
            PaperRounds u = busy();
            for (int i = 0; i < free; i++) {
                add.on(u, i);
            }
            return u;
        };
        refused(name + " at the limit", full, add, free, LIMIT);
        t = full.make();
        add.on(t, free);
        add.on(t, free);
        is(name + ", undo at the limit", t.undo(), 3);
        is(name + ", one is free again", add.on(t, free - 1) < 0 ? 1 : 0, 0);
        is(name + ", and no other", add.on(t, free), LIMIT);
    }

    private static void limitOfCorners() {
        limit("corner", 17, (t, v) -> t.corner(v, 2, v, v % 2));
        PaperRounds t = new PaperRounds();
        for (int corner = 1; corner < 20; corner++) {
            is("corner " + corner, t.corner(corner - 1, 1, 0, 0), corner);
        }
        is("corner 20", t.corner(19, 1, 0, 0), LIMIT);
        is("ahead 20 of 20 corners", t.corner(20, 1, 0, 0), INVALID);
        is("corners", t.count(0), 20);
    }

    private static void limitOfHouses() {
        limit("house", 21, (t, v) -> t.house(v % 3, 1 + v % 5, v));
        PaperRounds t = new PaperRounds();
        for (int house = 0; house < 24; house++) {
            is("house " + house, t.house(0, 1, 0), house);
        }
        is("house 24", t.house(0, 1, 0), LIMIT);
        is("dog of house 24", t.dog(24, 2, 0), INVALID);
        is("houses", t.count(1), 24);
    }

    private static void limitOfPauses() {
        limit("pause", 28, (t, v) -> t.pause(v % 3, 5 + v, 900 + v));
        PaperRounds t = new PaperRounds();
        t.house(0, 1, 0);
        for (int pause = 0; pause < 30; pause++) {
            is("pause " + pause, t.pause(0, 0, 0), pause);
        }
        is("pause 30", t.pause(0, 0, 0), LIMIT);
        t.days(1);
        is("a pause that is past counts too", t.pause(0, 1, 1), LIMIT);
        is("pauses", t.count(3), 30);
    }

    private static void limitOfCarriers() {
        limit("carrier", 1, (t, v) -> t.carrier(v % 2, 10 + v));
        PaperRounds t = new PaperRounds();
        for (int carrier = 0; carrier < 3; carrier++) {
            is("carrier " + carrier, t.carrier(carrier % 2, 10), carrier);
        }
        is("carrier 3", t.carrier(0, 10), LIMIT);
        is("biscuits of carrier 3", t.biscuits(3, 1), INVALID);
        is("carriers", t.count(2), 3);
    }

    private static PaperRounds withBiscuits(int many) {
        PaperRounds t = busy();
        while (t.carrierOf(1, 2) < many) {
            t.biscuits(1, Math.min(99, many - t.carrierOf(1, 2)));
        }
        return t;
    }

    private static void limitOfBiscuits() {
        is("499 and 1", withBiscuits(499).biscuits(1, 1), 500);
        is("401 and 99", withBiscuits(401).biscuits(1, 99), 500);
        refused("499 and 2", () -> withBiscuits(499), (t, v) -> t.biscuits(1, v), 2, LIMIT);
        refused("402 and 99", () -> withBiscuits(402), (t, v) -> t.biscuits(1, v), 99, LIMIT);
        refused("500 and 1", () -> withBiscuits(500), (t, v) -> t.biscuits(1, v), 1, LIMIT);
        is("another carrier, who has none left, has a limit of its own", withBiscuits(500).biscuits(0, 99), 99);
        PaperRounds t = new PaperRounds();
        t.carrier(0, 500);
        t.house(0, 1, 0);
        t.give(0, 0);
        t.dog(0, 2, 0);
        for (int i = 0; i < 5; i++) {
            t.biscuits(0, 99);
        }
        t.biscuits(0, 5);
        t.days(1);
        is("one was given away", t.biscuits(0, 2), LIMIT);
        is("so one more is taken", t.biscuits(0, 1), 500);
    }

    private static PaperRounds onDay(int day) {
        PaperRounds t = busy();
        goTo(t, day);
        return t;
    }

    private static void limitOfDays() {
        for (int days = 1; days <= 31; days++) {
            int gone = days;
            is(days + " days to the day 1000", onDay(1000 - days).days(days) < 0 ? 1 : 0, 0);
            refused(days + " days to the day 1001", () -> onDay(1001 - gone), (t, v) -> t.days(v), days, LIMIT);
        }
        refused("31 days on the day 1000", () -> onDay(1000), (t, v) -> t.days(v), 31, LIMIT);
        PaperRounds t = onDay(999);
        is("the day 1000", t.days(1) < 0 ? 1 : 0, 0);
        is("is the present one", t.count(4), 1000);
        is("no day more", t.days(1), LIMIT);
        is("undo of the last day", t.undo(), 3);
        is("the day 999 again", t.count(4), 999);
    }

    private static PaperRounds withText(int length) {
        PaperRounds t = busy();
        while (t.count(10) < length) {
            t.type(120);
        }
        return t;
    }

    private static void limitOfTheText() {
        is("the 60th character", withText(59).type(59), 60);
        for (int character = 32; character <= 126; character++) {
            is("the 61st character " + character, withText(60).type(character), LIMIT);
        }
        refused("the 61st character", () -> withText(60), (t, v) -> t.type(v), 59, LIMIT);
        refused("the 61st character 31", () -> withText(60), (t, v) -> t.type(v), 31, INVALID);
        refused("the 61st character 127", () -> withText(60), (t, v) -> t.type(v), 127, INVALID);
        PaperRounds t = withText(60);
        is("length", t.clearText(), 60);
        is("room again", t.type(126), 1);
    }

    // ---- what is not possible

    private static PaperRounds cleared(String text) {
        PaperRounds t = busy();
        t.clearText();
        write(t, text);
        return t;
    }

    private static void notPossible() {
        Maker b = RefusalTest::busy;
        refused("give to the one who has it", b, (t, v) -> t.give(v, 0), 0, NOT_POSSIBLE);
        refused("give along stairs to a cart", b, (t, v) -> t.give(v, 1), 1, NOT_POSSIBLE);
        refused("giveNone of a house that none has", b, (t, v) -> t.giveNone(v), 2, NOT_POSSIBLE);
        refused("play of a wrong form", b, (t, v) -> t.play(), 0, NOT_POSSIBLE);
        String[] texts = {"n2;", "g0,0;", "d32;", "b1,99;b1,99;b1,99;b1,99;b1,99;b1,99;", "p0,4,5;", "d1;b0,9;n2;", "d"};
        for (String text : texts) {
            refused("play of " + text, () -> cleared(text), (t, v) -> t.play(), 0, NOT_POSSIBLE);
        }
        PaperRounds t = busy();
        for (int left = 3; left >= 0; left--) {
            is("undo", t.undo(), left);
        }
        for (int i = 0; i < 3; i++) {
            is("undo of an empty history", t.undo(), NOT_POSSIBLE);
        }
        is("the town stands", t.count(4), 3);
    }

    // ---- the order of errors

    private static PaperRounds full() {
        PaperRounds t = new PaperRounds();
        for (int corner = 1; corner < 20; corner++) {
            t.corner(0, 1, 0, 0);
        }
        for (int house = 0; house < 24; house++) {
            t.house(0, 1, 0);
        }
        for (int pause = 0; pause < 30; pause++) {
            t.pause(0, 0, 0);
        }
        for (int carrier = 0; carrier < 3; carrier++) {
            t.carrier(0, 10);
        }
        for (int i = 0; i < 5; i++) {
            t.biscuits(0, 99);
        }
        t.biscuits(0, 5);
        goTo(t, 999);
        t.days(1);
        for (int i = 0; i < 60; i++) {
            t.type(32);
        }
        return t;
    }

    // INVALID_ARGUMENT rather than NOT_POSSIBLE, LIMIT_REACHED and NOT_FOUND; every limit is reached here.
    private static void orderOfErrors() {
        PaperRounds t = full();
        is("corner", t.corner(0, 1, 0, 0), LIMIT);
        is("corner, ahead", t.corner(20, 1, 0, 0), INVALID);
        is("corner, length", t.corner(0, 0, 0, 0), INVALID);
        is("corner, height", t.corner(0, 1, 101, 0), INVALID);
        is("corner, stairs", t.corner(0, 1, 0, 2), INVALID);
        is("house", t.house(0, 1, 0), LIMIT);
        is("house, corner", t.house(20, 1, 0), INVALID);
        is("house, papers", t.house(0, 6, 0), INVALID);
        is("house, tip", t.house(0, 1, 501), INVALID);
        is("pause, on the day 1000", t.pause(0, 1000, 1000), INVALID);
        is("carrier", t.carrier(0, 10), LIMIT);
        is("carrier, cart", t.carrier(2, 10), INVALID);
        is("carrier, limit", t.carrier(0, 9), INVALID);
        is("biscuits", t.biscuits(0, 1), LIMIT);
        is("biscuits, carrier", t.biscuits(3, 1), INVALID);
        is("biscuits, many", t.biscuits(0, 100), INVALID);
        is("days", t.days(1), LIMIT);
        is("days, 0", t.days(0), INVALID);
        is("days, 32", t.days(32), INVALID);
        is("type", t.type(32), LIMIT);
        is("type, 31", t.type(31), INVALID);
        is("type, 127", t.type(127), INVALID);
        is("give, house", t.give(24, 0), INVALID);
        is("give, carrier", t.give(0, 3), INVALID);
        is("giveNone", t.giveNone(0), NOT_POSSIBLE);
        is("giveNone, house", t.giveNone(24), INVALID);
        is("lightest, day", t.lightest(0, 1000), INVALID);
        is("nextDog", t.nextDog(0), NOT_FOUND);
        is("nextDog, house", t.nextDog(24), INVALID);
        is("roundAt", t.roundAt(0, 0), NOT_FOUND);
        is("roundAt, index", t.roundAt(0, -1), INVALID);
        is("roundAt, carrier", t.roundAt(3, 0), INVALID);
        is("cornerOf", t.cornerOf(0, 0), NOT_FOUND);
        is("cornerOf, what", t.cornerOf(0, 7), INVALID);
        is("cornerOf, corner", t.cornerOf(20, 0), INVALID);
        is("houseOf", t.houseOf(0, 3), NOT_FOUND);
        is("houseOf, what", t.houseOf(0, 12), INVALID);
        is("houseOf, house", t.houseOf(24, 3), INVALID);
        is("fault, 3", t.fault(3), INVALID);
        is("fault, cause of a wrong form", t.fault(2), NOT_FOUND);
        t.clearText();
        is("fault of no text", t.fault(2), NOT_FOUND);
        is("fault of no text, 3", t.fault(3), INVALID);
        PaperRounds u = new PaperRounds();
        u.house(0, 1, 0);
        for (int pause = 0; pause < 30; pause++) {
            u.pause(0, 0, 0);
        }
        is("pause", u.pause(0, 0, 0), LIMIT);
        is("pause, house", u.pause(1, 0, 0), INVALID);
        is("pause, first", u.pause(0, -1, 0), INVALID);
        is("pause, last ahead of first", u.pause(0, 1, 0), INVALID);
        is("pause, last", u.pause(0, 0, 1000), INVALID);
    }
}
