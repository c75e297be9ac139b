/**
 * The edges of section III of the document's Terms and of promises 14, 15 and 18 to 26, sentence
 * by sentence: CELLS, BOATS, WAYS, PLANS.
 */
public final class BoatsEdgesTest {
    private static final int NONE = SlackRace.NONE;
    private static final Due DUE = new Due();

    public static void main(String[] args) {
        flowOfEachKind();
        eddyLeadsToTheLastMinute();
        whiteIsCutAheadOfTwiceAndHalf();
        whiteToNinetyNine();
        whiteThatIsTold();
        wordsOfWhite();
        kindOfOneCell();
        bearsJust();
        paceJust();
        needJust();
        flowWhereItIs();
        flowAndWhiteOfTheStep();
        noWayBeyondColumnsAndRows();
        firstAndLastCell();
        lastStep();
        fromThereToThere();
        firstWayWaitsInLowCells();
        firstWayOfAlikeOnes();
        wayFromTheFirstToSoonest();
        calmestOfAllWays();
        calmestToTheLastStep();
        latestToBeThereEarlier();
        planOfForty();
        planToTheLastStep();
        slipOfFlow();
        slipEndsWithTheDay();
        doneOneBehindTheOther();
        marginOfEverySlip();
        marginFromNoneToSixty();
        DUE.close("BoatsEdgesTest");
    }

    private static void is(String what, long got, long want) {
        DUE.is(what, got, want);
    }

    private static SlackRace ruled(String law, int start) {
        SlackRace x = new SlackRace();
        is("law '" + law + "'", Due.makeLaw(x, law), 0);
        x.force(0);
        x.terms(4, start);
        return x;
    }

    private static SlackRace steady(int flow) {
        return ruled("gains 0", flow);
    }

    /** All six KINDS in CELLS 0 .. 5. */
    private static void sixKinds(SlackRace x) {
        for (int kind = 0; kind < 6; kind++) {
            x.kind(kind, kind);
        }
    }

    /** All ROCK but for these CELLS, which are MAIN. */
    private static void onlyMain(SlackRace x, int... cells) {
        Due.type(x, "\0".repeat(50));
        x.row();
        for (int cell : cells) {
            x.kind(cell, 1);
        }
    }

    // ---- CELLS

    /** "MAIN: FLOW; EDDY: - FLOW .. / 2; TAIL: FLOW / 4; BOIL: FLOW times 5 / 4; ..(ROCK: 0.)" */
    private static void flowOfEachKind() {
        int[][] due = {
            {0, 0, 0, 0, 0, 0}, {0, 1, 0, 0, 1, 1}, {0, -1, 0, 0, -1, -1}, {0, 3, -1, 0, 3, 3},
            {0, -3, 1, 0, -3, -3}, {0, 4, -2, 1, 5, 4}, {0, 7, -3, 1, 8, 7}, {0, -7, 3, -1, -8, -7},
            {0, 1000, -500, 250, 1250, 1000}, {0, -999, 499, -249, -1248, -999}};
        for (int[] flows : due) {
            SlackRace x = steady(flows[1]);
            sixKinds(x);
            for (int kind = 0; kind < 6; kind++) {
                is("15 KIND " + kind + " of " + flows[1], x.cell(kind, 700, 0), flows[kind]);
            }
        }
        // the greatest there is
        for (int side = -1; side <= 1; side += 2) {
            SlackRace y = ruled("gains " + (side < 0 ? "0-" : "") + "500", 0);
            sixKinds(y);
            int[] most = {0, 2000, -1000, 500, 2500, 2000};
            for (int kind = 0; kind < 6; kind++) {
                is("15 KIND " + kind + " at most", y.cell(kind, 1439, 0), side * most[kind]);
            }
        }
    }

    /** "LEAD MINUTES later (at the latest that of 1439)". */
    private static void eddyLeadsToTheLastMinute() {
        int[] leads = {0, 1, 20, 59, 60};
        for (int lead : leads) {
            // 500 at 1439 alone
            SlackRace x = ruled("gains 0;gains 500 if minute - 1000 = 438", 0);
            x.kind(7, 2);
            x.terms(5, lead);
            if (lead < 1439) {
                is("15 LEAD " + lead + ": not yet", x.cell(7, 1438 - lead, 0), 0);
            }
            is("15 LEAD " + lead + ": just", x.cell(7, 1439 - lead, 0), -250);
            is("15 LEAD " + lead + ": beyond", x.cell(7, 1439, 0), -250);
        }
        SlackRace y = new SlackRace();
        is("15 LEAD is 20 at first", y.terms(5, 20), 20);
        // 500 at 20 alone, - 500 at 21: no MINUTE but that one
        SlackRace z = ruled("gains 0;gains 500 if minute = 19;gains 0-500 if minute = 20", 0);
        z.kind(7, 2);
        is("15 at 0", z.cell(7, 0, 0), -250);
        is("15 at 1", z.cell(7, 1, 0), 0);
    }

    /** "- (that times WIND / 1,000), twice as much if STANDING, the half if EDDY, TAIL". */
    private static void whiteIsCutAheadOfTwiceAndHalf() {
        SlackRace x = steady(49);
        sixKinds(x);
        x.terms(9, -40);
        // 49 * 40 / 1,000 is 1.96, 61 * 40 / 1,000 is 2.44
        int[] against = {0, 1, 0, 0, 2, 2};
        for (int kind = 0; kind < 6; kind++) {
            is("15 WHITE of KIND " + kind, x.cell(kind, 9, 1), against[kind]);
        }
        SlackRace y = steady(1000);
        sixKinds(y);
        y.terms(9, -38);
        // TAIL: 250 * 38 / 1,000 is 9.5: 9, the half of it 4
        int[] hard = {0, 38, 0, 4, 47, 76};
        for (int kind = 0; kind < 6; kind++) {
            is("15 WHITE of KIND " + kind, y.cell(kind, 9, 1), hard[kind]);
        }
        y.terms(9, 39);
        // EDDY: 500 * 39 / 1,000 is 19.5: 19, the half of it 9
        int[] with = {0, 0, 9, 0, 0, 0};
        for (int kind = 0; kind < 6; kind++) {
            is("15 WHITE of KIND " + kind, y.cell(kind, 9, 1), with[kind]);
        }
        y.terms(9, 0);
        for (int kind = 0; kind < 6; kind++) {
            is("15 no WIND, no WHITE", y.cell(kind, 9, 1), 0);
        }
        // 1,000 and no less: 999 is cut to nothing
        SlackRace z = steady(999);
        z.terms(9, -1);
        is("15 999", z.cell(0, 9, 1), 0);
        z.terms(4, 1000);
        is("15 1,000", z.cell(0, 9, 1), 1);
        z.terms(4, -1000);
        is("15 the other way", z.cell(0, 9, 1), 0);
        z.terms(9, 1);
        is("15 the other way, and the WIND too", z.cell(0, 9, 1), 1);
    }

    /** "0 .. 99 (else the nearest)": without a LAW. */
    private static void whiteToNinetyNine() {
        SlackRace x = ruled("gains 500", 0);
        sixKinds(x);
        x.terms(9, -40);
        int[] most = {0, 80, 0, 10, 99, 99};
        for (int kind = 0; kind < 6; kind++) {
            is("15 most WHITE of KIND " + kind, x.cell(kind, 1439, 1), most[kind]);
        }
        x.terms(9, -39);
        // 2,500 * 39 / 1,000 is 97.5
        is("15 BOIL just below", x.cell(4, 1439, 1), 97);
        x.terms(9, -25);
        // twice 50
        is("15 STANDING: 100 is 99", x.cell(5, 1439, 1), 99);
        x.terms(9, -24);
        is("15 STANDING just below", x.cell(5, 1439, 1), 96);
        x.terms(9, 40);
        is("15 below 0 is 0", x.cell(4, 1439, 1), 0);
    }

    /** "what "white" tells of the FLOW there", "of ROCK 0". */
    private static void whiteThatIsTold() {
        String[] told = {"0-1", "0", "1", "98", "99", "100", "1000", "0-1000"};
        int[] due = {0, 0, 1, 98, 99, 99, 99, 0};
        for (int i = 0; i < told.length; i++) {
            SlackRace x = ruled("gains 0;white " + told[i], 1000);
            sixKinds(x);
            x.terms(9, -40);
            for (int kind = 0; kind < 6; kind++) {
                is("15 told " + told[i] + " of KIND " + kind, x.cell(kind, 9, 1),
                        kind == 0 ? 0 : due[i]);
            }
        }
        // what does not hold, or is broken, tells nothing: as without
        String[] no = {"gains 0", "gains 0;white 5 if 1=2", "gains 0;white 5/0",
            "gains 0;white 5 if 1/0=0"};
        for (String law : no) {
            SlackRace x = ruled(law, 1000);
            x.terms(9, -30);
            is("15 '" + law + "'", x.cell(0, 9, 1), 30);
        }
        SlackRace y = ruled("gains 0;white 5;white 6 if kind = 2;white 7/[kind-3]", 1000);
        sixKinds(y);
        // 7 / 2 of STANDING, 7 / 1 of BOIL, broken of TAIL, - 7 of EDDY, - 7 / 2 of MAIN
        int[] last = {0, 0, 0, 5, 7, 3};
        for (int kind = 0; kind < 6; kind++) {
            is("15 the last that holds, KIND " + kind, y.cell(kind, 9, 1), last[kind]);
        }
    }

    private static void wordsOfWhite() {
        String[] words = {"fall", "flow", "minute", "0-wind", "glass - 1000", "kind",
            "turbines + 7", "7 - turbines"};
        int[] due = {12, 50, 9, 6, 10, 4, 7, 7};
        for (int i = 0; i < words.length; i++) {
            SlackRace x = ruled("gains 0;white " + words[i], 40);
            x.sea(0, 0, 30);
            x.sea(1, 0, 18);
            x.terms(9, -6);
            x.terms(10, 1010);
            x.kind(3, 4);
            is("15 white " + words[i], x.cell(3, 9, 1), due[i]);
        }
        // fall and minute are of the MINUTE itself, though an EDDY's FLOW is of a later one
        SlackRace y = ruled("gains 1;white fall", 0);
        y.kind(3, 2);
        y.moon(0, 0, 0, 50);
        y.moon(0, 0, 1, 1000);
        is("15 fall of the MINUTE", y.cell(3, 100, 1), y.level(0, 100));
        is("15 it changes", y.level(0, 120) > y.level(0, 100) ? 1 : 0, 1);
        y.force(Due.makeLaw(y, "gains 1;white minute"));
        is("15 minute of the MINUTE", y.cell(3, 50, 1), 50);
        y.force(Due.makeLaw(y, "gains 1;white 0-flow"));
        is("15 flow of the CELL, LEAD later", y.cell(3, 100, 1), 60);
    }

    /** "The KIND of a CELL becomes another one: what it was." */
    private static void kindOfOneCell() {
        SlackRace x = new SlackRace();
        for (int cell = 0; cell < 50; cell++) {
            is("14 MAIN at first", x.kind(cell, cell % 6), 1);
        }
        for (int cell = 0; cell < 50; cell++) {
            is("14 each by itself", x.cell(cell, 0, 2), cell % 6);
            is("14 the same", x.kind(cell, cell % 6), cell % 6);
        }
    }

    // ---- where a BOAT can be and go

    /** "if it is no ROCK and WHITE at most what it BEARS". */
    private static void bearsJust() {
        int[] whites = {0, 1, 50, 98, 99};
        for (int white : whites) {
            SlackRace x = ruled("gains 0;white " + white, 0);
            x.boat(500, white);
            x.boat(500, Math.max(0, white - 1));
            int less = white == 0 ? 143 : NONE;
            is("19 just bears " + white, x.soonest(0, 143, 5, 5), 143);
            is("19 one less", x.soonest(1, 143, 5, 5), less);
            is("21 just bears " + white, x.calmest(0, 143, 5, 5), white);
            is("22 just bears " + white, x.latest(0, 5, 5, 143), 143);
            is("22 one less", x.latest(1, 5, 5, 143), less);
            is("25 just bears " + white, x.done(0, 143, 5, 0), 0);
            is("25 one less", x.done(1, 143, 5, 0), white == 0 ? 0 : NONE);
            x.kind(5, 0);
            is("19 ROCK", x.soonest(0, 143, 5, 5), NONE);
            is("20 ROCK", x.way(0, 143, 5, 5, 143), NONE);
            is("21 ROCK", x.calmest(0, 143, 5, 5), NONE);
            is("22 ROCK", x.latest(0, 5, 5, 143), NONE);
            is("25 ROCK", x.done(0, 143, 5, 0), NONE);
            is("26 ROCK", x.margin(0, 143, 5), NONE);
        }
        SlackRace y = ruled("gains 0;white 1000", 0);
        y.boat(500, 99);
        is("19 99 bears all there is", y.soonest(0, 0, 0, 49), 13);
    }

    /** Whether one move can be done, which all calls must tell alike. */
    private static void can(SlackRace x, int move, boolean can) {
        int[] to = {22, 23, 21, 32, 12};
        x.tear();
        x.move(move);
        is("25 move " + move, x.done(0, 7, 22, 0), can ? 1 : 0);
        is("26 move " + move, x.margin(0, 7, 22), can ? 60 : NONE);
        onlyMain(x, 22, to[move]);
        if (move != 0) {
            is("19 move " + move, x.soonest(0, 7, 22, to[move]), can ? 8 : NONE);
            is("20 move " + move, x.way(0, 7, 22, to[move], 8), can ? to[move] : NONE);
            is("21 move " + move, x.calmest(0, 7, 22, to[move]), can ? 0 : NONE);
            is("22 move " + move, x.latest(0, 22, to[move], 9), can ? 8 : NONE);
        } else {
            // it can't go anywhere else: only by staying is it ready later
            x.kind(23, 3);
            is("19 staying", x.soonest(0, 7, 22, 23) == NONE ? 0 : 1, can ? 1 : 0);
        }
    }

    /** "0 it stays, 3 .., 4 .., each if |FLOW| where it is is at most PACE". */
    private static void paceJust() {
        int[] paces = {1, 100, 999};
        int[] moves = {0, 3, 4};
        for (int pace : paces) {
            for (int move : moves) {
                for (int side = -1; side <= 1; side += 2) {
                    for (int more = -1; more <= 1; more++) {
                        // CELL 23 is TAIL and white up to STEP 9: it must be waited for
                        SlackRace x = ruled("gains 0;white 99 if kind=3 and minute<100",
                                side * (pace + more));
                        x.terms(6, 1);
                        x.boat(pace, 9);
                        if (move == 0 && side < 0) {
                            // against the flow it could not go to 23 in the end
                            x.tear();
                            x.move(0);
                            is("25 staying", x.done(0, 7, 22, 0), more <= 0 ? 1 : 0);
                        } else {
                            can(x, move, more <= 0);
                        }
                    }
                }
            }
        }
        SlackRace y = ruled("gains 500", 0);
        y.boat(1500, 99);
        is("19 1,500 is too little for 2,000", y.soonest(0, 10, 22, 32), NONE);
        y.terms(4, 1000);
        // 1,000 at MINUTE 0
        is("19 but not for 1,000", y.soonest(0, 0, 22, 32), 1);
    }

    /** "1 .., if PACE and FLOW are NEED at least; 2 .., if PACE less FLOW is". */
    private static void needJust() {
        int[] needs = {1, 60, 100, 500};
        int pace = 100;
        for (int need : needs) {
            for (int more = -1; more <= 1; more++) {
                SlackRace on = steady(need - pace + more);
                on.terms(6, need);
                on.boat(pace, 9);
                can(on, 1, more >= 0);
                SlackRace back = steady(pace - need + more);
                back.terms(6, need);
                back.boat(pace, 9);
                can(back, 2, more <= 0);
            }
        }
        // with a FLOW beyond its PACE it goes on, though it can't stay
        SlackRace fast = steady(1000);
        fast.boat(1, 9);
        can(fast, 1, true);
        SlackRace slow = steady(-1000);
        slow.boat(1, 9);
        can(slow, 2, true);
        SlackRace against = steady(-1000);
        against.boat(1, 9);
        can(against, 1, false);
        SlackRace first = new SlackRace();
        first.boat(99, 9);
        first.boat(100, 9);
        is("19 NEED is 100 at first", first.soonest(0, 0, 0, 1), NONE);
        is("19 NEED is 100 at first", first.soonest(1, 0, 0, 1), 1);
    }

    /** The FLOW "where it is", not where it goes. */
    private static void flowWhereItIs() {
        SlackRace x = steady(200);
        x.boat(100, 9);
        onlyMain(x, 22, 32);
        x.kind(22, 3);
        // TAIL: 50
        is("19 out of a TAIL", x.soonest(0, 0, 22, 32), 1);
        is("19 not into it", x.soonest(0, 0, 32, 22), NONE);
        x.tear();
        x.move(3);
        is("25 out of a TAIL", x.done(0, 0, 22, 0), 1);
        x.tear();
        x.move(4);
        is("25 not into it", x.done(0, 0, 32, 0), 0);
        is("22 out of a TAIL", x.latest(0, 22, 32, 1), 0);
        is("22 not into it", x.latest(0, 32, 22, 100), NONE);
        // columns: 100 and 200 are 300, 100 and 50 are 150
        onlyMain(x, 22, 23);
        x.kind(23, 3);
        x.terms(6, 200);
        is("19 on with the MAIN", x.soonest(0, 0, 22, 23), 1);
        onlyMain(x, 23, 24);
        x.kind(23, 3);
        is("19 not on with the TAIL", x.soonest(0, 0, 23, 24), NONE);
        // 100 less - 100 are 200 in an EDDY
        x.kind(23, 2);
        x.kind(22, 1);
        is("19 back with the EDDY", x.soonest(0, 0, 23, 22), 1);
        is("19 not out of the MAIN", x.soonest(0, 0, 24, 23), NONE);
    }

    /** "STEP k is MINUTE 10 k": FLOW at the STEP that it leaves, WHITE at both. */
    private static void flowAndWhiteOfTheStep() {
        // 0 up to MINUTE 50, 500 from 51 on
        SlackRace x = ruled("gains 0;gains 500 if minute = 50", 0);
        x.boat(100, 9);
        is("19 by the FLOW at MINUTE 50", x.soonest(0, 5, 22, 32), 6);
        is("19 not by that at 60", x.soonest(0, 6, 22, 32), NONE);
        // 0 up to MINUTE 49, 500 at 50
        SlackRace y = ruled("gains 0;gains 500 if minute = 49", 0);
        y.boat(100, 9);
        is("19 by the FLOW at MINUTE 40", y.soonest(0, 4, 22, 32), 5);
        is("19 not by that at 50", y.soonest(0, 5, 22, 32), NONE);
        // white at MINUTE 50 alone, in a TAIL alone
        SlackRace z = ruled("gains 0;white 50 if minute = 50 and kind = 3", 0);
        z.boat(100, 9);
        z.kind(32, 3);
        is("19 not there at 50", z.soonest(0, 4, 22, 32), 6);
        is("19 there at 40", z.soonest(0, 3, 22, 32), 4);
        is("19 not from there at 50", z.soonest(0, 5, 32, 22), NONE);
        is("19 from there at 40", z.soonest(0, 4, 32, 22), 5);
        is("19 it can't stay over 50", z.latest(0, 32, 32, 6), 6);
        is("22 from there at 40 at the latest", z.latest(0, 32, 22, 6), 4);
        is("22 from there at 60", z.latest(0, 32, 22, 7), 6);
        // white at MINUTE 51 is of no STEP
        SlackRace w = ruled("gains 0;white 50 if minute = 51 or minute = 49", 0);
        w.boat(100, 9);
        is("19 no STEP sees it", w.soonest(0, 0, 0, 9), 9);
    }

    private static void noWayBeyondColumnsAndRows() {
        for (int cell = 0; cell < 50; cell++) {
            SlackRace x = steady(0);
            x.boat(100, 9);
            boolean[] can = {true, cell % 10 != 9, cell % 10 != 0, cell < 40, cell >= 10};
            int[] to = {cell, cell + 1, cell - 1, cell + 10, cell - 10};
            for (int move = 0; move < 5; move++) {
                x.tear();
                x.move(move);
                is("25 move " + move + " from " + cell, x.done(0, 3, cell, 0), can[move] ? 1 : 0);
                if (to[move] >= 0 && to[move] < 50 && move != 0) {
                    int soonest = x.soonest(0, 3, cell, to[move]);
                    is("19 move " + move + " from " + cell, soonest == 4 ? 1 : 0,
                            can[move] ? 1 : 0);
                }
            }
        }
        SlackRace y = steady(0);
        y.boat(100, 9);
        is("19 from 9 to 10: round about", y.soonest(0, 0, 9, 10), 10);
        is("19 from 10 to 9: round about", y.soonest(0, 0, 10, 9), 10);
        onlyMain(y, 9, 10);
        is("19 from 9 to 10", y.soonest(0, 0, 9, 10), NONE);
        is("19 from 10 to 9", y.soonest(0, 0, 10, 9), NONE);
        is("21 from 9 to 10", y.calmest(0, 0, 9, 10), NONE);
        is("21 from 10 to 9", y.calmest(0, 0, 10, 9), NONE);
        is("22 from 9 to 10", y.latest(0, 9, 10, 143), NONE);
        is("22 from 10 to 9", y.latest(0, 10, 9, 143), NONE);
        onlyMain(y, 0, 49);
        is("19 from 0 to 49", y.soonest(0, 0, 0, 49), NONE);
        is("19 from 49 to 0", y.soonest(0, 0, 49, 0), NONE);
    }

    /** CELLS 0 and 49 are as all others are. */
    private static void firstAndLastCell() {
        int[] ends = {0, 49};
        int[] beside = {1, 48};
        int[] line = {10, 39};
        for (int i = 0; i < 2; i++) {
            SlackRace x = steady(0);
            x.boat(100, 9);
            x.kind(ends[i], 0);
            is("19 ROCK at " + ends[i], x.soonest(0, 0, beside[i], ends[i]), NONE);
            is("19 ROCK at " + ends[i], x.soonest(0, 0, ends[i], ends[i]), NONE);
            is("21 ROCK at " + ends[i], x.calmest(0, 0, beside[i], ends[i]), NONE);
            is("22 ROCK at " + ends[i], x.latest(0, ends[i], beside[i], 9), NONE);
            SlackRace y = steady(101);
            y.boat(100, 9);
            is("19 it runs at " + ends[i], y.soonest(0, 0, ends[i], line[i]), NONE);
            is("22 it runs at " + ends[i], y.latest(0, ends[i], line[i], 99), NONE);
            SlackRace z = ruled("gains 0;white 10 if kind = 3", 0);
            z.boat(100, 9);
            z.kind(ends[i], 3);
            is("19 white at " + ends[i], z.soonest(0, 0, beside[i], ends[i]), NONE);
            is("19 white at " + ends[i], z.soonest(0, 0, ends[i], beside[i]), NONE);
            z.boat(99, 10);
            is("19 NEED at " + ends[i], z.soonest(1, 0, ends[i], beside[i]), NONE);
            is("19 but rows at " + ends[i], z.soonest(1, 0, ends[i], line[i]), 1);
        }
    }

    // ---- WAYS

    /** "STEPS 0 .. 143". */
    private static void lastStep() {
        SlackRace x = steady(0);
        x.boat(100, 9);
        is("19 at the last STEP", x.soonest(0, 142, 22, 23), 143);
        is("19 beyond it", x.soonest(0, 143, 22, 23), NONE);
        is("19 two", x.soonest(0, 141, 22, 24), 143);
        is("19 two, beyond it", x.soonest(0, 142, 22, 24), NONE);
        is("20 at the last STEP", x.way(0, 142, 22, 23, 143), 23);
        is("22 by the last STEP", x.latest(0, 22, 23, 143), 142);
        is("22 by STEP 0", x.latest(0, 22, 23, 0), NONE);
        is("22 by STEP 0, there", x.latest(0, 22, 22, 0), 0);
        is("22 by STEP 1", x.latest(0, 22, 23, 1), 0);
        is("22 two by STEP 1", x.latest(0, 22, 24, 1), NONE);
        // white but at the last STEP
        SlackRace y = ruled("gains 0;white 50 if minute - 1000 < 430 and kind = 3", 0);
        y.boat(100, 9);
        y.kind(23, 3);
        is("19 there at the last STEP alone", y.soonest(0, 0, 22, 23), 143);
        is("20 it waits in the lowest CELLS", y.way(0, 0, 22, 23, 100), 0);
        is("22 there at the last STEP alone", y.latest(0, 22, 23, 143), 142);
        is("22 not a STEP earlier", y.latest(0, 22, 23, 142), NONE);
    }

    private static void fromThereToThere() {
        SlackRace x = ruled("gains 0;white 3;white 50 if minute = 100", 500);
        x.boat(1, 9);
        is("19 there already, though it can't stay", x.soonest(0, 9, 22, 22), 9);
        is("20 there already", x.way(0, 9, 22, 22, 9), 22);
        is("20 no more than that", x.way(0, 9, 22, 22, 10), NONE);
        is("20 nor less", x.way(0, 9, 22, 22, 8), NONE);
        is("21 its own WHITE", x.calmest(0, 9, 22, 22), 3);
        is("22 there already", x.latest(0, 22, 22, 9), 9);
        is("19 it can't be there", x.soonest(0, 10, 22, 22), NONE);
        is("20 it can't be there", x.way(0, 10, 22, 22, 10), NONE);
        is("21 it can't be there", x.calmest(0, 10, 22, 22), NONE);
        is("22 there a STEP earlier", x.latest(0, 22, 22, 10), 9);
    }

    /** "the FIRST such WAY: as a row of CELLS, lower ones ahead." */
    private static void firstWayWaitsInLowCells() {
        SlackRace x = ruled("gains 0;white 50 if kind = 3 and minute < 40", 0);
        x.boat(100, 9);
        x.kind(1, 3);
        int[] corner = {0, 0, 0, 0, 1};
        for (int i = 0; i < corner.length; i++) {
            is("20 it stays in the corner: " + i, x.way(0, 0, 0, 1, i), corner[i]);
        }
        x.kind(1, 1);
        x.kind(24, 3);
        // from 23 it goes to the row ahead and back, rather than stay
        is("20 soonest", x.soonest(0, 1, 23, 24), 4);
        int[] ahead = {23, 13, 14, 24};
        for (int i = 0; i < ahead.length; i++) {
            is("20 the row ahead first: " + i, x.way(0, 1, 23, 24, 1 + i), ahead[i]);
        }
        // an even number of moves to spare: up two rows, if there is time
        int[] far = {23, 13, 3, 4, 14, 24};
        SlackRace y = ruled("gains 0;white 50 if kind = 3 and minute < 50", 0);
        y.boat(100, 9);
        y.kind(24, 3);
        for (int i = 0; i < far.length; i++) {
            is("20 two rows ahead: " + i, y.way(0, 0, 23, 24, i), far[i]);
        }
    }

    private static void firstWayOfAlikeOnes() {
        SlackRace x = steady(0);
        x.boat(100, 9);
        int[] down = {22, 23, 24, 34, 44};
        int[] downBack = {24, 23, 22, 32, 42};
        int[] up = {42, 32, 22, 23, 24};
        int[] upBack = {44, 34, 24, 23, 22};
        for (int i = 0; i < 5; i++) {
            is("20 the next column ahead of the next row", x.way(0, 0, 22, 44, i), down[i]);
            is("20 the column ahead ahead of the next row", x.way(0, 0, 24, 42, i), downBack[i]);
            is("20 the row ahead ahead of the next column", x.way(0, 0, 42, 24, i), up[i]);
            is("20 the row ahead ahead of the column ahead", x.way(0, 0, 44, 22, i), upBack[i]);
        }
        // the lowest at first may be a dead end
        x.kind(24, 0);
        x.kind(33, 0);
        int[] round = {22, 32, 42, 43, 44};
        for (int i = 0; i < 5; i++) {
            is("20 not into a dead end", x.way(0, 0, 22, 44, i), round[i]);
        }
    }

    /** "The CELL at a STEP (from the first on to SOONEST)". NONE. */
    private static void wayFromTheFirstToSoonest() {
        SlackRace x = steady(0);
        x.boat(100, 9);
        is("20 a STEP too early", x.way(0, 50, 0, 2, 49), NONE);
        is("20 the first", x.way(0, 50, 0, 2, 50), 0);
        is("20 between", x.way(0, 50, 0, 2, 51), 1);
        is("20 SOONEST", x.way(0, 50, 0, 2, 52), 2);
        is("20 a STEP too late", x.way(0, 50, 0, 2, 53), NONE);
        is("20 the last STEP", x.way(0, 50, 0, 2, 143), NONE);
        x.kind(2, 0);
        is("20 no WAY: none at the first either", x.way(0, 50, 0, 2, 50), NONE);
    }

    /** "the least WHITE of all its CELLS, each at its STEP, together". */
    private static void calmestOfAllWays() {
        SlackRace x = ruled("gains 0;white kind", 0);
        x.boat(100, 99);
        // a row of BOIL, round which MAIN leads
        onlyMain(x, 20, 30, 31, 32, 33, 34, 24);
        for (int cell = 21; cell <= 23; cell++) {
            x.kind(cell, 4);
        }
        is("19 straight on", x.soonest(0, 0, 20, 24), 4);
        is("21 round about: seven MAINS", x.calmest(0, 0, 20, 24), 7);
        x.kind(22, 1);
        // 20, 21, 22, 23, 24: 1 + 4 + 1 + 4 + 1
        is("21 still round about", x.calmest(0, 0, 20, 24), 7);
        x.kind(21, 1);
        x.kind(23, 2);
        is("21 straight on", x.calmest(0, 0, 20, 24), 6);
        is("21 the same way back", x.calmest(0, 0, 24, 20), 6);
        x.kind(24, 5);
        is("21 the last one counts", x.calmest(0, 0, 20, 24), 10);
        x.kind(20, 5);
        is("21 the first one counts", x.calmest(0, 0, 20, 24), 14);
        // each at its STEP: it is dear up to MINUTE 40, then it costs nothing
        SlackRace y = ruled("gains 0;white 0;white 9 if minute < 41;white 5 if kind = 3", 0);
        y.boat(100, 99);
        is("21 at once", y.calmest(0, 4, 22, 23), 9);
        is("21 all of it white", y.calmest(0, 0, 22, 23), 18);
        onlyMain(y, 22, 23);
        y.kind(22, 3);
        is("21 waiting costs more than the next", y.calmest(0, 3, 22, 23), 5 + 5);
        is("21 at once", y.calmest(0, 4, 22, 23), 5);
        is("21 at STEP 2: 5, then 9, or 5, 5, 5", y.calmest(0, 2, 22, 23), 14);
    }

    private static void calmestToTheLastStep() {
        SlackRace x = ruled("gains 0;white 2", 0);
        x.boat(100, 9);
        is("21 to the last STEP", x.calmest(0, 142, 22, 23), 4);
        is("21 beyond it", x.calmest(0, 143, 22, 23), NONE);
        is("21 two STEPS", x.calmest(0, 141, 22, 24), 6);
        is("21 beyond it", x.calmest(0, 142, 22, 24), NONE);
        // white but at the last STEP: all day is waited for it, at no cost
        SlackRace y = ruled("gains 0;white 0;white 9 if minute - 1000 < 430 and kind = 3", 0);
        y.boat(100, 9);
        y.kind(23, 3);
        is("21 it waits all day", y.calmest(0, 0, 22, 23), 0);
        SlackRace z = ruled("gains 0;white 99", 0);
        z.boat(100, 99);
        onlyMain(z, 20, 21, 22, 23, 24, 25, 26, 27, 28, 29);
        is("21 much WHITE", z.calmest(0, 0, 20, 29), 990);
    }

    /** "the last STEP at which it can begin, to be there at a STEP or earlier." */
    private static void latestToBeThereEarlier() {
        // CELL 23 is white from MINUTE 60 on
        SlackRace x = ruled("gains 0;white 50 if kind = 3 and minute > 59", 0);
        x.boat(100, 9);
        x.kind(23, 3);
        is("22 there at STEP 5 at the latest", x.latest(0, 22, 23, 143), 4);
        is("22 there at STEP 5 at the latest", x.latest(0, 22, 23, 5), 4);
        is("22 by STEP 4", x.latest(0, 22, 23, 4), 3);
        is("22 there already", x.latest(0, 23, 23, 100), 5);
        is("22 away from it", x.latest(0, 23, 22, 100), 5);
        // it can begin again later: the last one counts
        SlackRace y = ruled("gains 0;white 50 if minute > 30 and minute < 95", 0);
        y.boat(100, 9);
        is("22 behind the white", y.latest(0, 22, 23, 20), 19);
        is("22 just behind the white", y.latest(0, 22, 23, 11), 10);
        is("22 ahead of the white", y.latest(0, 22, 23, 10), 2);
        is("22 in the white", y.latest(0, 22, 23, 7), 2);
        is("22 there, in the white", y.latest(0, 22, 22, 7), 3);
    }

    // ---- PLANS

    /** "moves 0 .. 4, 40 at most." */
    private static void planOfForty() {
        SlackRace x = steady(0);
        x.boat(100, 9);
        for (int n = 1; n <= 40; n++) {
            is("23 how many", x.move(n % 2 == 0 ? 2 : 1), n);
        }
        is("23 no room", x.move(1), -5);
        is("23 wrong, and no room", x.move(9), -1);
        is("23 40 still", x.count(3), 40);
        is("25 all 40", x.done(0, 0, 22, 0), 40);
        is("24 it had", x.tear(), 40);
        is("24 none now", x.count(3), 0);
        is("24 none now", x.tear(), 0);
        is("25 of no moves none", x.done(0, 0, 22, 0), 0);
        is("26 of no moves all", x.margin(0, 0, 22), 60);
        is("23 the first again", x.move(3), 1);
        is("25 the new one alone", x.done(0, 0, 42, 0), 0);
    }

    /** "Beyond STEP 143 none can." */
    private static void planToTheLastStep() {
        SlackRace x = steady(0);
        x.boat(100, 9);
        for (int n = 1; n <= 40; n++) {
            x.move(0);
        }
        is("25 to STEP 143", x.done(0, 103, 22, 0), 40);
        is("26 to STEP 143", x.margin(0, 103, 22), 60);
        is("25 one beyond", x.done(0, 104, 22, 0), 39);
        is("26 one beyond", x.margin(0, 104, 22), NONE);
        is("25 one", x.done(0, 142, 22, 0), 1);
        is("25 none", x.done(0, 143, 22, 0), 0);
        is("25 a SLIP ahead gives no STEP more", x.done(0, 143, 22, -60), 0);
        x.tear();
        is("26 no moves at the last STEP", x.margin(0, 143, 22), 60);
    }

    /** "With a SLIP of s MINUTES all FLOW and WHITE are those of s MINUTES later". */
    private static void slipOfFlow() {
        // 500 from MINUTE 56 on
        SlackRace x = ruled("gains 0;gains 500 if minute = 55", 0);
        x.boat(100, 9);
        x.move(3);
        is("25 at MINUTE 55", x.done(0, 5, 22, 5), 1);
        is("25 at MINUTE 56", x.done(0, 5, 22, 6), 0);
        is("25 at MINUTE 60", x.done(0, 6, 22, 0), 0);
        is("25 at MINUTE 56", x.done(0, 6, 22, -4), 0);
        is("25 at MINUTE 55", x.done(0, 6, 22, -5), 1);
        is("26 up to 55", x.margin(0, 5, 22), 5);
        is("26 not without a SLIP", x.margin(0, 6, 22), NONE);
        // an EDDY's FLOW is LEAD MINUTES later than that
        x.kind(22, 2);
        is("25 EDDY at MINUTE 35", x.done(0, 3, 22, 5), 1);
        is("25 EDDY at MINUTE 36", x.done(0, 3, 22, 6), 0);
        // WHITE at the first CELL, and at the next a STEP later
        SlackRace y = ruled("gains 0;white 50 if minute = 77", 0);
        y.boat(100, 9);
        y.move(3);
        is("25 white at first", y.done(0, 7, 22, 7), NONE);
        is("25 white there", y.done(0, 6, 22, 7), 0);
        is("25 white at no time", y.done(0, 5, 22, 7), 1);
        is("25 white there", y.done(0, 8, 22, -13), 0);
        is("25 white at first", y.done(0, 8, 22, -3), NONE);
        is("26 up to 76", y.margin(0, 7, 22), 2);
        is("26 from 78 on", y.margin(0, 8, 22), 2);
        // the word minute is that of the SLIP, too
        SlackRace z = ruled("gains 0;white minute", 0);
        z.boat(100, 30);
        is("25 minute 30", z.done(0, 2, 22, 10), 0);
        is("25 minute 31", z.done(0, 2, 22, 11), NONE);
    }

    /** "(at the earliest of 0, at the latest of 1439)". */
    private static void slipEndsWithTheDay() {
        SlackRace x = ruled("gains 0;white 50 if minute = 0", 0);
        x.boat(100, 9);
        is("25 MINUTE 1", x.done(0, 6, 22, -59), 0);
        is("25 MINUTE 0", x.done(0, 6, 22, -60), NONE);
        is("25 ahead of MINUTE 0", x.done(0, 5, 22, -60), NONE);
        is("25 ahead of MINUTE 0", x.done(0, 0, 22, -1), NONE);
        is("25 MINUTE 1", x.done(0, 0, 22, 1), 0);
        SlackRace y = ruled("gains 0;white 50 if minute - 1000 = 439", 0);
        y.boat(100, 9);
        is("25 MINUTE 1438", y.done(0, 143, 22, 8), 0);
        is("25 MINUTE 1439", y.done(0, 143, 22, 9), NONE);
        is("25 behind MINUTE 1439", y.done(0, 143, 22, 10), NONE);
        is("25 behind MINUTE 1439", y.done(0, 143, 22, 60), NONE);
        is("25 behind MINUTE 1439", y.done(0, 138, 22, 60), NONE);
        is("25 MINUTE 1430", y.done(0, 137, 22, 60), 0);
        is("26 to MINUTE 1438", y.margin(0, 143, 22), 8);
        // FLOW, too: 500 at 1439 alone
        SlackRace z = ruled("gains 0;gains 500 if minute - 1000 = 438", 0);
        z.boat(100, 9);
        z.move(0);
        is("25 FLOW of 1438", z.done(0, 142, 22, 18), 1);
        is("25 FLOW of 1439", z.done(0, 142, 22, 19), 0);
        is("25 FLOW of 1439", z.done(0, 142, 22, 60), 0);
        is("26 FLOW", z.margin(0, 142, 22), 18);
    }

    /** "How many moves of the PLAN can be done, one behind the other". */
    private static void doneOneBehindTheOther() {
        SlackRace x = steady(0);
        x.boat(100, 9);
        int[] moves = {1, 3, 1, 4, 2};
        for (int move : moves) {
            x.move(move);
        }
        is("25 all", x.done(0, 0, 22, 0), 5);
        // 22, 23, 33, 34, 24, 23
        int[] on = {22, 23, 33, 34, 24};
        for (int i = 0; i < on.length; i++) {
            x.kind(on[i], 0);
            is("25 ROCK at " + on[i], x.done(0, 0, 22, 0), i - 1);
            x.kind(on[i], 1);
        }
        x.kind(23, 0);
        is("25 the first that can't be done ends it", x.done(0, 0, 22, 0), 0);
        is("26 not all of it", x.margin(0, 0, 22), NONE);
        x.kind(23, 1);
        is("25 beyond a column", x.done(0, 0, 28, 0), 2);
        is("25 beyond a row", x.done(0, 0, 42, 0), 1);
    }

    /** "the greatest m .. so that all of it can be done with every SLIP -m .. m." */
    private static void marginOfEverySlip() {
        // white at one MINUTE alone, ahead or behind
        for (int off : new int[] {-60, -7, -1, 1, 7, 60}) {
            SlackRace x = ruled("gains 0;white 50 if minute = " + (500 + off), 0);
            x.boat(100, 9);
            is("26 one MINUTE, " + off + " off", x.margin(0, 50, 22), Math.abs(off) - 1);
        }
        SlackRace y = ruled("gains 0;white 50 if minute = 500", 0);
        y.boat(100, 9);
        is("26 not without a SLIP", y.margin(0, 50, 22), NONE);
        // at the second STEP
        y.move(0);
        is("26 9 off, and 10", y.margin(0, 51, 22), 9);
        is("26 not without a SLIP", y.margin(0, 49, 22), NONE);
        is("26 10 off, then 0", y.margin(0, 48, 22), 9);
        // further off it could be done again: that does not count
        is("25 11 off", y.done(0, 51, 22, -11), 1);
    }

    private static void marginFromNoneToSixty() {
        int[] lasts = {499, 500, 501, 559, 560, 561};
        int[] due = {NONE, 0, 1, 59, 60, 60};
        for (int i = 0; i < lasts.length; i++) {
            SlackRace x = ruled("gains 0;white 50 if minute > " + lasts[i], 0);
            x.boat(100, 9);
            is("26 up to " + lasts[i], x.margin(0, 50, 22), due[i]);
            SlackRace y = ruled("gains 0;white 50 if minute < " + (1000 - lasts[i]), 0);
            y.boat(100, 9);
            is("26 from " + (1000 - lasts[i]) + " on", y.margin(0, 50, 22), due[i]);
        }
    }
}
