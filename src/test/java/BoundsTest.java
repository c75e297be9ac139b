import java.util.ArrayList;
import java.util.Arrays;
import java.util.List;

/**
 * Each number that a call takes has a least and a greatest one. Both are taken; the next ones
 * beyond them, and the least and the greatest of all, are not. A call that is REFUSED for that
 * leaves all as it was, is counted once, and status() tells of it; a call that only asks answers
 * NONE or NOTHING, and is no REFUSED one.
 */
public final class BoundsTest {
    private static final int NONE = SlackRace.NONE;
    private static final int NOTHING = SlackRace.NOTHING;
    private static final Due DUE = new Due();
    private static final int[] CELL = {0, 49};
    private static final int[] STEP = {0, 143};
    private static final int[] MINUTE = {0, 1439};
    private static final int[] END = {0, 1};
    private static final int[] MOON = {0, 3};
    private static final int[] BOAT = {0, 1};

    private interface Call {
        long on(SlackRace x, int[] n);
    }

    public static void main(String[] args) {
        settings();
        rooms();
        fullRooms();
        waters();
        boats();
        shipsAndTurbines();
        floatsAndRules();
        rest();
        DUE.close("BoundsTest");
    }

    /** One of everything, in still water, with two of what has numbers of its own. */
    private static SlackRace ready() {
        SlackRace x = new SlackRace();
        // the day itself has no wind, the drawn one has
        Due.rule(x, "gains wind");
        Due.makeLaw(x, "gains 1");
        x.moon(0, 0, 0, 100);
        x.moon(0, 0, 1, 1000);
        x.terms(8, 50);
        x.boat(500, 50);
        x.boat(600, 60);
        x.ship(100, 10, 0);
        x.ship(200, 10, 0);
        x.cast(100, x.level(0, 100));
        x.cast(300, x.level(0, 300));
        x.move(0);
        x.day(5);
        x.image(0);
        x.image(1);
        x.feed(0x01020304, 0x05000000, 0, 0, 0);
        x.end(5);
        return x;
    }

    // ---- the table's two kinds of rows

    /** A call that changes something: REFUSED by the code if one number is beyond its bounds. */
    private static void sets(String name, Call call, int code, int[] plain, int[]... bounds) {
        List<Long> before = portrait(ready());
        for (int[] n : inside(plain, bounds)) {
            SlackRace x = ready();
            call.on(x, n);
            DUE.is(name + Arrays.toString(n) + " is taken: status", x.status(), 0);
            DUE.is(name + Arrays.toString(n) + " is taken: refusals", refusals(x), 0);
        }
        for (int[] n : outside(plain, bounds)) {
            SlackRace x = ready();
            String told = name + Arrays.toString(n);
            DUE.is(told, call.on(x, n), code);
            DUE.is(told + ": status", x.status(), code);
            DUE.is(told + ": counted once", refusals(x), 1);
            DUE.is(told + ": counted by its code", x.count(code == -1 ? 6 : 7), 1);
            DUE.is(told + " leaves all as it was", before.equals(portrait(x)) ? 1 : 0, 1);
        }
    }

    /** A call that asks: answered by NONE or NOTHING if one number is beyond its bounds. */
    private static void asks(String name, Call call, long none, int[] plain, int[]... bounds) {
        List<Long> before = portrait(ready());
        for (int[] n : inside(plain, bounds)) {
            DUE.is(name + Arrays.toString(n) + " has an answer",
                    call.on(ready(), n) != none ? 1 : 0, 1);
        }
        for (int[] n : outside(plain, bounds)) {
            SlackRace x = ready();
            x.sea(9, 9, 9);
            String told = name + Arrays.toString(n);
            DUE.is(told, call.on(x, n), none);
            DUE.is(told + " is no refused call: status", x.status(), -1);
            DUE.is(told + " is no refused call: counts", refusals(x), 1);
            DUE.is(told + " leaves all as it was", before.equals(portrait(x)) ? 1 : 0, 1);
        }
    }

    private static List<int[]> inside(int[] plain, int[][] bounds) {
        List<int[]> all = new ArrayList<>();
        for (int p = 0; p < plain.length; p++) {
            all.add(with(plain, p, bounds[p][0]));
            all.add(with(plain, p, bounds[p][1]));
        }
        return all;
    }

    private static List<int[]> outside(int[] plain, int[][] bounds) {
        List<int[]> all = new ArrayList<>();
        for (int p = 0; p < plain.length; p++) {
            int[] beyond = {bounds[p][0] - 1, bounds[p][1] + 1, Integer.MIN_VALUE,
                Integer.MAX_VALUE, plain[p] + (1 << 24), plain[p] - (1 << 24)};
            for (int value : beyond) {
                // one number that fits does not make up for one that does not
                all.add(with(plain, p, value));
            }
            for (int q = 0; q < p; q++) {
                all.add(with(with(plain, p, bounds[p][0] - 1), q, bounds[q][1] + 1));
            }
        }
        return all;
    }

    private static int[] with(int[] plain, int at, int value) {
        int[] n = plain.clone();
        n[at] = value;
        return n;
    }

    private static int refusals(SlackRace x) {
        return x.count(6) + x.count(7) + x.count(8) + x.count(9);
    }

    /** What can be told of an object, refusals apart; values are read by setting them, and back. */
    private static List<Long> portrait(SlackRace x) {
        List<Long> all = new ArrayList<>();
        for (int what : new int[] {0, 1, 2, 3, 4, 5, 10}) {
            all.add((long) x.count(what));
        }
        all.add((long) x.fault());
        all.add((long) x.foul());
        for (int minute : new int[] {0, 100, 1439}) {
            all.add((long) x.flow(minute));
            all.add((long) x.drawn(minute));
            all.add((long) x.level(0, minute));
            all.add((long) x.level(1, minute));
        }
        for (int cell = 0; cell < 50; cell++) {
            all.add((long) x.cell(cell, 0, 2));
        }
        for (int boat = 0; boat < 3; boat++) {
            all.add((long) x.done(boat, 0, 22, 0));
            all.add((long) x.begins(boat));
        }
        all.add((long) x.agree(0, 0));
        all.add((long) x.tells(0));
        all.add((long) x.order(NONE));
        int[] first = {8, 10, 40, 50, 0, 20, 100, 2, 5, 0, 1013};
        for (int what = 0; what <= 10; what++) {
            int was = x.terms(what, first[what]);
            all.add((long) was);
            x.terms(what, was);
        }
        for (int end = 0; end < 2; end++) {
            for (int what = 0; what < 3; what++) {
                int was = x.sea(end, what, 0);
                all.add((long) was);
                x.sea(end, what, was);
            }
            for (int moon = 0; moon < 4; moon++) {
                for (int what = 0; what < 3; what++) {
                    int was = x.moon(end, moon, what, 100);
                    all.add((long) was);
                    x.moon(end, moon, what, was);
                }
            }
        }
        all.add((long) x.tear());
        return all;
    }

    // ---- promises 2 to 4

    private static void settings() {
        int[][] seas = {{-500, 500}, {0, 3}, {-5, 5}};
        for (int what = 0; what < 3; what++) {
            int w = what;
            sets("2 sea, " + what + ": ", (x, n) -> x.sea(n[0], w, n[1]), -1,
                    new int[] {0, 1}, END, seas[what]);
        }
        sets("2 sea what: ", (x, n) -> x.sea(1, n[0], 0), -1, new int[] {0}, new int[] {0, 2});
        int[][] moons = {{0, 500}, {60, 2000}, {0, 1999}};
        for (int what = 0; what < 3; what++) {
            int w = what;
            sets("3 moon, " + what + ": ", (x, n) -> x.moon(n[0], n[1], w, n[2]), -1,
                    new int[] {1, 2, 100}, END, MOON, moons[what]);
        }
        sets("3 moon what: ", (x, n) -> x.moon(0, 1, n[0], 100), -1, new int[] {0},
                new int[] {0, 2});
        int[][] terms = {{0, 50}, {0, 50}, {1, 500}, {0, 500}, {-1000, 1000}, {0, 60}, {1, 500},
            {0, 20}, {0, 50}, {-40, 40}, {950, 1050}};
        for (int what = 0; what <= 10; what++) {
            int w = what;
            sets("4 terms, " + what + ": ", (x, n) -> x.terms(w, n[0]), -1,
                    new int[] {terms[what][1] - 1}, terms[what]);
        }
        sets("4 terms what: ", (x, n) -> x.terms(n[0], n[0] == 10 ? 1000 : 5), -1, new int[] {0},
                new int[] {0, 10});
    }

    // ---- promises 11, 14, 18, 23, 27, 32, 38, 40, 41

    private static void rooms() {
        sets("11 force: ", (x, n) -> x.force(n[0]), -2, new int[] {0}, new int[] {NONE, 1});
        sets("14 kind: ", (x, n) -> x.kind(n[0], n[1]), -1, new int[] {7, 3}, CELL,
                new int[] {0, 5});
        sets("18 boat: ", (x, n) -> x.boat(n[0], n[1]), -1, new int[] {100, 10},
                new int[] {1, 1500}, new int[] {0, 99});
        sets("23 move: ", (x, n) -> x.move(n[0]), -1, new int[] {1}, new int[] {0, 4});
        sets("27 ship: ", (x, n) -> x.ship(n[0], n[1], n[2]), -1, new int[] {5, 5, 5}, MINUTE,
                new int[] {1, 120}, new int[] {0, 2000});
        sets("32 cast: ", (x, n) -> x.cast(n[0], n[1]), -1, new int[] {5, 5}, MINUTE,
                new int[] {-9999, 9999});
        sets("38 day: ", (x, n) -> x.day(n[0]), -1, new int[] {7}, new int[] {0, 1000000});
        sets("40 image: ", (x, n) -> x.image(n[0]), -1, new int[] {0}, new int[] {0, 1});
        sets("41 back: ", (x, n) -> x.back(n[0]), -1, new int[] {0}, new int[] {0, 1});
    }

    /** What has no room left is REFUSED by -5, but by -1 if a number can't be, too. */
    private static void fullRooms() {
        SlackRace x = new SlackRace();
        int[] room = {6, 6, 6, 40, 12};
        for (int sort = 0; sort < room.length; sort++) {
            for (int i = 0; i < room[sort]; i++) {
                int number = addOne(x, sort, false);
                DUE.is("room " + sort + ": number", number, sort == 3 ? i + 1 : i);
                DUE.is("room " + sort + ": how many", x.count(sort), i + 1);
                DUE.is("room " + sort + ": status", x.status(), 0);
            }
            int by1 = x.count(6);
            int by5 = x.count(8);
            DUE.is("room " + sort + ": full", addOne(x, sort, false), -5);
            DUE.is("room " + sort + ": full: status", x.status(), -5);
            DUE.is("room " + sort + ": full: counted", x.count(8), by5 + 1);
            DUE.is("room " + sort + ": full: no more", x.count(sort), room[sort]);
            if (sort != 2) {
                DUE.is("room " + sort + ": -1 ahead of -5", addOne(x, sort, true), -1);
                DUE.is("room " + sort + ": -1 ahead of -5: status", x.status(), -1);
                DUE.is("room " + sort + ": -1 ahead of -5: counted", x.count(6), by1 + 1);
                DUE.is("room " + sort + ": -1 ahead of -5: counted", x.count(8), by5 + 1);
            }
        }
        // -5 ahead of -6: a LAW that could not be read is not looked at
        DUE.is("-5 ahead of -6", Due.makeLaw(x, "nonsense"), -5);
        DUE.is("-1 ahead of -2", x.back(2), -1);
        DUE.is("-2", x.back(1), -2);
    }

    private static int addOne(SlackRace x, int sort, boolean wrong) {
        switch (sort) {
            case 0:
                return x.boat(wrong ? 0 : 1, 0);
            case 1:
                return x.ship(0, wrong ? 0 : 1, 0);
            case 2:
                return Due.makeLaw(x, "gains 1");
            case 3:
                return x.move(wrong ? 5 : 0);
            default:
                return x.cast(0, wrong ? 10000 : 0);
        }
    }

    // ---- promises 12, 13, 15 to 17

    private static void waters() {
        asks("12 level: ", (x, n) -> x.level(n[0], n[1]), NOTHING, new int[] {0, 5}, END, MINUTE);
        asks("13 flow: ", (x, n) -> x.flow(n[0]), NOTHING, new int[] {5}, MINUTE);
        for (int what = 0; what < 3; what++) {
            int w = what;
            asks("15 cell, " + what + ": ", (x, n) -> x.cell(n[0], n[1], w), NOTHING,
                    new int[] {5, 5}, CELL, MINUTE);
        }
        asks("15 cell what: ", (x, n) -> x.cell(5, 5, n[0]), NOTHING, new int[] {1},
                new int[] {0, 2});
        asks("16 slack: ", (x, n) -> x.slack(n[0], n[1]), NOTHING, new int[] {0, 0},
                new int[] {NONE, 0}, new int[] {0, 3});
        asks("16 slack, how many: ", (x, n) -> x.slack(NONE, n[0]), NOTHING, new int[] {0},
                new int[] {0, 3});
        asks("17 late: ", (x, n) -> x.late(n[0]), NOTHING, new int[] {0}, new int[] {0, 0});
    }

    // ---- promises 19 to 22, 25, 26

    private static void boats() {
        asks("19 soonest: ", (x, n) -> x.soonest(n[0], n[1], n[2], n[3]), NONE,
                new int[] {0, 10, 22, 22}, BOAT, STEP, CELL, CELL);
        asks("20 way: ", (x, n) -> x.way(n[0], n[1], n[2], n[3], n[1]), NONE,
                new int[] {0, 10, 22, 22}, BOAT, STEP, CELL, CELL);
        asks("20 way at: ", (x, n) -> x.way(0, 130, 0, 49, n[0]), NONE, new int[] {135},
                new int[] {130, 143});
        asks("20 way at: ", (x, n) -> x.way(0, 0, 0, 2, n[0]), NONE, new int[] {1},
                new int[] {0, 2});
        asks("21 calmest: ", (x, n) -> x.calmest(n[0], n[1], n[2], n[3]), NONE,
                new int[] {0, 10, 22, 22}, BOAT, STEP, CELL, CELL);
        asks("22 latest: ", (x, n) -> x.latest(n[0], n[1], n[2], n[3]), NONE,
                new int[] {0, 22, 22, 20}, BOAT, CELL, CELL, STEP);
        asks("25 done: ", (x, n) -> x.done(n[0], n[1], n[2], n[3]), NONE,
                new int[] {0, 10, 22, 0}, BOAT, STEP, CELL, new int[] {-60, 60});
        asks("26 margin: ", (x, n) -> x.margin(n[0], n[1], n[2]), NONE,
                new int[] {0, 10, 22}, BOAT, new int[] {0, 142}, CELL);
    }

    // ---- promises 28 to 31

    private static void shipsAndTurbines() {
        asks("28 order: ", (x, n) -> x.order(n[0]), NONE, new int[] {0}, new int[] {NONE, 1});
        asks("29 begins: ", (x, n) -> x.begins(n[0]), NONE, new int[] {0}, new int[] {0, 1});
        asks("30 taken: ", (x, n) -> x.taken(n[0]), NONE, new int[] {5}, new int[] {0, 20});
        asks("31 most: ", (x, n) -> x.most(n[0], 5), NOTHING, new int[] {0}, new int[] {0, 1});
        asks("31 most: ", (x, n) -> x.most(1, n[0]), NOTHING, new int[] {5}, MINUTE);
    }

    // ---- promises 33 to 36

    private static void floatsAndRules() {
        asks("33 agree: ", (x, n) -> x.agree(n[0], n[1]), NONE, new int[] {0, 0}, MOON,
                new int[] {0, 5});
        asks("34 tells: ", (x, n) -> x.tells(n[0]), NONE, new int[] {0}, MOON);
        asks("35 right: ", (x, n) -> x.right(n[0], n[1]), NONE, new int[] {5, 9}, MINUTE, MINUTE);
        asks("36 mark: ", (x, n) -> x.mark(n[0]), NONE, new int[] {5}, new int[] {0, 720});
    }

    // ---- promises 6, 37, 39, 42

    private static void rest() {
        asks("6 end: ", (x, n) -> x.end(n[0]), NONE, new int[] {5}, new int[] {0, 5});
        asks("37 lost: ", (x, n) -> x.lost(n[0], n[1], n[2], n[3]), NONE,
                new int[] {22, 10, 0, 22}, CELL, STEP, new int[] {0, 6}, new int[] {0, 51});
        asks("37 lost, to the last STEP: ", (x, n) -> x.lost(22, n[0], 6, 22), NONE,
                new int[] {10}, new int[] {0, 137});
        asks("37 lost, from the last STEP: ", (x, n) -> x.lost(22, 143, n[0], 22), NONE,
                new int[] {0}, new int[] {0, 0});
        asks("39 drawn: ", (x, n) -> x.drawn(n[0]), NOTHING, new int[] {5}, MINUTE);
        asks("42 count: ", (x, n) -> x.count(n[0]), NONE, new int[] {0}, new int[] {0, 10});
    }
}
