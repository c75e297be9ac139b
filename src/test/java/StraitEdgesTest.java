/**
 * The edges of section IV of the document's Terms and of promises 27 to 43, sentence by sentence:
 * SHIPS, TURBINES, FLOATS, the RULE, LOST things, DRAWN DAYS, IMAGES, what is counted.
 */
public final class StraitEdgesTest {
    private static final int NONE = SlackRace.NONE;
    private static final int NOTHING = SlackRace.NOTHING;
    private static final Due DUE = new Due();

    public static void main(String[] args) {
        limitJust();
        allMinutesOfThePass();
        passWithinTheDay();
        oneBehindTheOther();
        leastWaitOrFirstRow();
        noShipsOrNoOrder();
        takenIsCutMinuteByMinute();
        takenByTheirOwnFlow();
        bestNumberOfTurbines();
        agreeWithinTheError();
        agreeByHeightsToFiveHundred();
        agreeByPhasesBelowThePeriod();
        agreeAllElseAsItIs();
        agreeWithFloatsAlike();
        tellsWithoutWhich();
        highFromSixtyTo1379();
        highAmongTheSixtyAheadAndBehind();
        ruleFromAToB();
        ruleByTheLatestHigh();
        ruleWithoutAHigh();
        markFromNothingTo719();
        lostByTenths();
        lostAtTheEdges();
        lostStays();
        lostByTheFlowOfEachStep();
        lostIsCutInTheEnd();
        drawnWinds();
        drawnInThePlaceOfTheWind();
        drawnIsKeptAsTheLatest();
        imagesKeepAll();
        imagesKeepWhatWasThere();
        imagesStay();
        imagesKeepNot();
        refusalsAreCounted();
        statusOfEachCall();
        to512Calls();
        DUE.close("StraitEdgesTest");
    }

    private static void is(String what, long got, long want) {
        DUE.is(what, got, want);
    }

    private static SlackRace ruled(String law, int start) {
        SlackRace x = new SlackRace();
        is("law '" + law + "'", Due.makeLaw(x, law), 0);
        x.force(0);
        x.terms(4, start);
        return x;
    }

    private static SlackRace steady(int flow) {
        return ruled("gains 0", flow);
    }

    // ---- SHIPS

    /** "|FLOW| is at most LIMIT". */
    private static void limitJust() {
        int[] limits = {0, 1, 300, 999};
        for (int limit : limits) {
            for (int side = -1; side <= 1; side += 2) {
                SlackRace x = steady(side * limit);
                x.ship(7, 120, limit);
                is("29 just", x.begins(0), 7);
                SlackRace y = steady(side * (limit + 1));
                y.ship(7, 1, limit);
                is("29 just not", y.begins(0), NONE);
                is("28 just not", y.order(NONE), NONE);
            }
        }
        SlackRace z = ruled("gains 500", 0);
        z.ship(1000, 120, 2000);
        is("29 LIMIT 2,000 bears all there is", z.begins(0), 1000);
    }

    /** "in all MINUTES of its PASS". */
    private static void allMinutesOfThePass() {
        int[] flows = {300, -300};
        for (int flow : flows) {
            String more = flow > 0 ? "300" : "0-300";
            String less = flow > 0 ? "0-300" : "300";
            // at MINUTE 50 alone
            for (int ready = 28; ready <= 52; ready++) {
                SlackRace x = ruled("gains 0;gains " + more + " if minute = 49;gains " + less
                        + " if minute = 50", 0);
                x.ship(ready, 20, 299);
                is("29 READY at " + ready, x.begins(0), ready <= 30 ? ready : Math.max(51, ready));
            }
        }
        // 0 for ten MINUTES, 300 for one, over and over
        SlackRace y = ruled("gains 0;gains 300 if minute-minute/11*11 = 9;"
                + "gains 0-300 if minute-minute/11*11 = 10", 0);
        y.ship(0, 10, 0);
        is("29 a gap just wide enough", y.begins(0), 0);
        SlackRace z = ruled("gains 0;gains 300 if minute-minute/11*11 = 9;"
                + "gains 0-300 if minute-minute/11*11 = 10", 0);
        z.ship(1, 10, 0);
        is("29 the next gap", z.begins(0), 11);
        z.ship(0, 11, 0);
        is("28 none is wide enough", z.order(NONE), NONE);
    }

    /** "(all of the DAY)". */
    private static void passWithinTheDay() {
        int[][] ships = {{1439, 1}, {1438, 2}, {1320, 120}, {0, 1}, {0, 120}};
        for (int[] s : ships) {
            SlackRace x = steady(0);
            x.ship(s[0], s[1], 0);
            is("29 to the last MINUTE", x.begins(0), s[0]);
            is("28 no wait", x.order(NONE), 0);
        }
        int[][] late = {{1439, 2}, {1438, 3}, {1321, 120}};
        for (int[] s : late) {
            SlackRace x = steady(0);
            x.ship(s[0], s[1], 0);
            is("29 beyond it", x.begins(0), NONE);
            is("28 beyond it", x.order(NONE), NONE);
            is("28 beyond it", x.order(0), NONE);
        }
        // the first is through when the day is over
        SlackRace y = steady(0);
        y.ship(1430, 10, 0);
        is("29 alone", y.begins(0), 1430);
        y.ship(1430, 10, 0);
        is("28 no MINUTE is left", y.order(NONE), NONE);
        SlackRace z = steady(0);
        z.ship(1430, 5, 0);
        z.ship(1430, 5, 0);
        is("28 just", z.order(NONE), 5);
        is("29 just", z.begins(1), 1435);
    }

    /** "each as soon as it is READY, the one ahead is through". */
    private static void oneBehindTheOther() {
        SlackRace x = steady(0);
        x.ship(0, 10, 0);
        x.ship(10, 10, 0);
        is("28 the next begins when the one ahead is through", x.order(NONE), 0);
        is("29 first", x.begins(0), 0);
        is("29 second", x.begins(1), 10);
        SlackRace y = steady(0);
        y.ship(0, 10, 0);
        y.ship(9, 10, 0);
        is("28 one MINUTE", y.order(NONE), 1);
        is("29 second", y.begins(1), 10);
        SlackRace z = steady(0);
        z.ship(0, 10, 0);
        z.ship(50, 10, 0);
        is("28 not ahead of READY", z.order(NONE), 0);
        is("29 not ahead of READY", z.begins(1), 50);
    }

    /** "The BEST ORDER waits least ..; of alike ones the first as a row." */
    private static void leastWaitOrFirstRow() {
        SlackRace x = steady(0);
        for (int i = 0; i < 6; i++) {
            x.ship(0, 10, 0);
        }
        is("28 six alike", x.order(NONE), 10 + 20 + 30 + 40 + 50);
        for (int i = 0; i < 6; i++) {
            is("28 the first as a row", x.order(i), i);
            is("29 the first as a row", x.begins(i), 10 * i);
        }
        is("28 no seventh", x.order(6), NONE);
        SlackRace y = steady(0);
        for (int i = 0; i < 6; i++) {
            y.ship(0, 60 - 10 * i, 0);
        }
        for (int i = 0; i < 6; i++) {
            is("28 the shortest ahead", y.order(i), 5 - i);
        }
        is("28 the shortest ahead", y.order(NONE), 10 + 30 + 60 + 100 + 150);
        // of two alike, a third between: 0, 2, 1 and 1, 2, 0 wait alike
        SlackRace z = steady(0);
        z.ship(0, 10, 0);
        z.ship(0, 10, 0);
        z.ship(0, 5, 0);
        is("28 wait", z.order(NONE), 5 + 15);
        is("28 first", z.order(0), 2);
        is("28 second", z.order(1), 0);
        is("28 third", z.order(2), 1);
        // one that must go later lets others ahead: it runs 300 up to MINUTE 99
        SlackRace w = ruled("gains 0;gains 0-300 if minute = 99", 300);
        w.ship(0, 10, 0);
        w.ship(0, 30, 300);
        w.ship(5, 30, 300);
        is("28 wait", w.order(NONE), 100 + 0 + 25);
        is("28 first", w.order(0), 1);
        is("28 second", w.order(1), 2);
        is("28 third", w.order(2), 0);
    }

    /** "NONE (none can be, too)." */
    private static void noShipsOrNoOrder() {
        SlackRace x = steady(0);
        is("28 no SHIPS wait not at all", x.order(NONE), 0);
        is("28 nor those of a new object", new SlackRace().order(NONE), 0);
        is("28 no SHIPS", x.order(0), NONE);
        is("29 no SHIPS", x.begins(0), NONE);
        x.ship(0, 10, 0);
        is("28 one", x.order(0), 0);
        // the new one can't: so none can be
        x.ship(1439, 2, 0);
        is("28 none can be", x.order(NONE), NONE);
        is("28 none can be", x.order(0), NONE);
        is("29 none can be", x.begins(0), NONE);
        is("29 none can be", x.begins(1), NONE);
        // what is changed is seen
        SlackRace y = steady(0);
        y.ship(0, 10, 5);
        is("29 at once", y.begins(0), 0);
        y.terms(4, 6);
        is("29 it runs now", y.begins(0), NONE);
        y.terms(4, 5);
        is("29 and now not", y.begins(0), 0);
    }

    // ---- TURBINES

    /** "n times |FLOW| times |FLOW| times |FLOW| / 1,000,000, of all MINUTES together". */
    private static void takenIsCutMinuteByMinute() {
        for (int side = -1; side <= 1; side += 2) {
            SlackRace x = steady(side * 99);
            // 970,299 each
            is("30 one of 99 takes nothing", x.taken(1), 0);
            is("30 two of 99 take 1.94", x.taken(2), 1440);
            is("30 twenty of 99 take 19.4", x.taken(20), 19 * 1440);
            SlackRace y = steady(side * 100);
            is("30 one of 100 takes 1", y.taken(1), 1440);
            is("30 none take nothing", y.taken(0), 0);
        }
        // 2,000 from MINUTE 2 on
        SlackRace z = ruled("gains 500", 1000);
        is("30 all that can be", z.taken(20), 20 * 1000 + 20 * 3375 + 1438L * 160000);
        SlackRace w = ruled("gains 0-500", -1000);
        is("30 all that can be", w.taken(20), 20 * 1000 + 20 * 3375 + 1438L * 160000);
        // 15 * 385 * 385 * 385 is 855,999,375: just not 856 millions
        is("30 by a million", steady(385).taken(15), 1440L * 855);
    }

    /** "by the FLOW that n make": "[RUB and DRAG times turbines]", and the word. */
    private static void takenByTheirOwnFlow() {
        SlackRace x = new SlackRace();
        x.terms(0, 0);
        x.terms(1, 0);
        x.terms(2, 1);
        x.terms(4, 100);
        x.terms(7, 20);
        // 100 * 100 * 20 / 1,000 is 200: 100, -100, 100 ..
        is("30 one slows it", x.taken(1), 1440);
        is("13 none do not", x.flow(1), 100);
        x.terms(1, 5);
        // 100 * 100 * 5 / 1,000 is 50
        is("13 by RUB alone", x.flow(1), 50);
        SlackRace y = ruled("gains 0;gains 10 * turbines if minute = 0", 0);
        is("30 by the word, 10", y.taken(10), 1439L * 10);
        is("30 by the word, 20", y.taken(20), 1439L * 160);
        is("13 the word is 0 else", y.flow(1), 0);
        is("31 the best", y.most(0, 0), 20);
        is("31 their FLOW", y.most(1, 0), 0);
        is("31 their FLOW", y.most(1, 1), 200);
        is("31 their FLOW", y.most(1, 1439), 200);
        is("13 the word is 0 still", y.flow(1), 0);
        // the WIND of the day itself, whatever was drawn or compared
        SlackRace z = ruled("gains wind if minute = 0;gains 0 if minute > 0", 100);
        z.terms(9, 30);
        long plain = z.taken(3);
        is("30 by the WIND", plain, 3 + 1439L * (3L * 130 * 130 * 130 / 1000000));
        z.day(5);
        z.late(0);
        z.terms(8, 1);
        z.day(6);
        is("30 by the WIND still", z.taken(3), plain);
        is("31 by the WIND still", z.most(1, 1), 130);
        is("13 by the WIND still", z.flow(1), 130);
        z.terms(8, 2);
        z.day(7);
        is("31 by the WIND, though a day was drawn", z.most(1, 5), 130);
        z.terms(8, 3);
        z.day(8);
        is("13 by the WIND, though a day was drawn", z.flow(5), 130);
        z.terms(8, 4);
        z.day(9);
        z.terms(3, 500);
        is("17 by no WIND, though a day was drawn", z.late(0), 0);
    }

    /** "BEST n: the one with the most, of alike ones the lowest." */
    private static void bestNumberOfTurbines() {
        is("31 nothing to take: 0", steady(0).most(0, 0), 0);
        is("31 nothing to take by 20 either", steady(36).most(0, 0), 0);
        // 37 * 37 * 37 is 50,653: twenty take 1.01
        is("31 twenty alone take something", steady(37).most(0, 0), 20);
        for (int best = 1; best <= 20; best++) {
            // 100 at MINUTE 1 alone, by that number alone
            SlackRace x = ruled("gains 0;gains 100 if minute=0 and turbines=" + best
                    + ";gains 0-100 if minute=1 and turbines=" + best, 0);
            is("31 best " + best, x.most(0, 0), best);
            is("31 its FLOW", x.most(1, 1), 100);
            is("31 its FLOW", x.most(1, 2), 0);
            is("30 it takes", x.taken(best), best);
            is("30 no other does", x.taken(best - 1) + x.taken(best < 20 ? best + 1 : 0), 0);
        }
        // 100 for 10, 50 for 20 and so on: 10 * 1 and 20 * .5 are not alike, but cut
        SlackRace y = ruled("gains 0;gains 100 if minute=0 and (turbines=6 or turbines=3);"
                + "gains 0-100 if minute=2 and turbines=3;gains 0-100 if minute=1 and turbines=6",
                0);
        is("30 three, two MINUTES", y.taken(3), 6);
        is("30 six, one MINUTE", y.taken(6), 6);
        is("31 of alike ones the lowest", y.most(0, 0), 3);
    }

    // ---- FLOATS

    private static SlackRace floats(int period, int error) {
        SlackRace x = new SlackRace();
        x.moon(0, 0, 1, period);
        x.terms(8, error);
        return x;
    }

    /** "if each LEVEL is off by ERROR at most." */
    private static void agreeWithinTheError() {
        int[][] due = {{9, 100, 0}, {10, 90, 0}, {11, 90, 0}, {19, 90, 0}, {20, 80, 0}};
        for (int[] d : due) {
            // at 250 of 1000 the LEVEL is the HEIGHT with PHASE 0: no other has it so low
            SlackRace x = floats(1000, d[0]);
            x.cast(250, 100);
            is("33 least HEIGHT by ERROR " + d[0], x.agree(0, 1), d[1]);
            is("33 its PHASE", x.agree(0, 5), d[2]);
        }
        SlackRace y = floats(1000, 0);
        y.cast(250, 500);
        is("33 500 alone", y.agree(0, 0), 1);
        y.terms(8, 1);
        // PHASE 10 and 990 have 998 of a thousand: 499; 20 and 980 have 993: 496
        is("33 by 1", y.agree(0, 0), 3);
        SlackRace z = floats(1000, 0);
        z.cast(250, 501);
        is("33 too high", z.agree(0, 0), 0);
        z.terms(8, 1);
        is("33 too high by 1", z.agree(0, 0), 1);
        SlackRace w = floats(1000, 50);
        w.cast(250, 551);
        is("33 too high by 51", w.agree(0, 0), 0);
        w.sea(0, 0, 1);
        is("33 by 50", w.agree(0, 0), 1);
        w.sea(0, 0, 0);
        SlackRace v = floats(1000, 50);
        v.cast(250, -550);
        is("33 too low by 50", v.agree(0, 0), 1);
        is("33 its PHASE", v.agree(0, 5), 500);
        v.cast(250, -551);
        is("33 too low by 51", v.agree(0, 0), 0);
    }

    /** "a HEIGHT (0, 10 .. 500)". */
    private static void agreeByHeightsToFiveHundred() {
        SlackRace x = floats(1000, 0);
        x.cast(0, 0);
        is("33 HEIGHT 0, whatever the PHASE", x.agree(0, 1), 0);
        is("33 its first PHASE", x.agree(0, 5), 0);
        is("33 HEIGHT 500, by PHASE 0 or 500", x.agree(0, 2), 500);
        is("33 greatest PHASE, by HEIGHT 0", x.agree(0, 4), 990);
        x.cast(250, 500);
        is("33 one is left", x.agree(0, 0), 1);
        is("33 least HEIGHT", x.agree(0, 1), 500);
        is("33 greatest HEIGHT", x.agree(0, 2), 500);
        // 999 of a thousand are cut to 499, and 500 are there 15 MINUTES behind
        SlackRace y = floats(2000, 0);
        y.cast(485, 499);
        y.cast(500, 500);
        is("33 cut as a LEVEL is", y.agree(0, 0), 1);
        is("33 cut as a LEVEL is", y.agree(0, 2), 500);
        // 495 is no HEIGHT: at the top and the foot at once it can't be
        SlackRace z = floats(1000, 0);
        z.cast(250, 495);
        z.cast(0, 0);
        is("33 in steps of 10", z.agree(0, 0), 0);
    }

    /** "a PHASE (0, 10 .. below PERIOD)". */
    private static void agreeByPhasesBelowThePeriod() {
        int[][] due = {{60, 50}, {61, 60}, {69, 60}, {70, 60}, {71, 70}, {720, 710}, {1990, 1980},
            {1991, 1990}, {2000, 1990}};
        for (int[] d : due) {
            SlackRace x = floats(d[0], 5);
            is("33 least PHASE of " + d[0], x.agree(0, 3), 0);
            is("33 greatest PHASE of " + d[0], x.agree(0, 4), d[1]);
            is("33 all of " + d[0], x.agree(0, 0), 51 * (d[1] / 10 + 1));
            // the PHASE that it has may be greater: that does not matter
            x.moon(0, 0, 2, 1999);
            is("33 all of " + d[0], x.agree(0, 0), 51 * (d[1] / 10 + 1));
        }
    }

    /** "of a MOON of END 0, all else as it is". */
    private static void agreeAllElseAsItIs() {
        SlackRace x = floats(1000, 0);
        x.sea(0, 0, -40);
        x.sea(0, 1, 2);
        x.sea(0, 2, 3);
        x.terms(9, -10);
        x.terms(10, 1000);
        x.moon(0, 2, 0, 333);
        x.moon(0, 2, 1, 777);
        x.moon(0, 2, 2, 55);
        x.moon(0, 0, 0, 210);
        x.moon(0, 0, 2, 340);
        for (int minute = 0; minute < 1200; minute += 100) {
            x.cast(minute, x.level(0, minute));
        }
        is("33 all twelve", x.count(4), 12);
        is("33 itself", x.agree(0, 0), 1);
        is("33 its HEIGHT", x.agree(0, 1), 210);
        is("33 its PHASE", x.agree(0, 5), 340);
        // the moon's own HEIGHT and PHASE now do not matter, its PERIOD does
        x.moon(0, 0, 0, 500);
        x.moon(0, 0, 2, 1);
        is("33 whatever it is now", x.agree(0, 0), 1);
        is("33 whatever it is now", x.agree(0, 2), 210);
        is("33 whatever it is now", x.agree(0, 4), 340);
        // with it so, no other moon can make up for it
        is("33 of another moon", x.agree(1, 0), 0);
        x.moon(1, 0, 0, 400);
        x.sea(1, 0, 100);
        is("33 END 1 does not matter", x.agree(0, 0), 1);
        x.moon(0, 0, 1, 1010);
        is("33 another PERIOD", x.agree(0, 0), 0);
        x.moon(0, 0, 1, 1000);
        x.terms(9, -9);
        is("33 another WIND", x.agree(0, 0), 0);
        x.terms(9, -10);
        x.terms(10, 1001);
        is("33 another GLASS", x.agree(0, 0), 0);
        x.terms(10, 1000);
        x.moon(0, 2, 2, 60);
        is("33 another moon beside it", x.agree(0, 0), 0);
        x.moon(0, 2, 2, 55);
        is("33 as it was", x.agree(0, 0), 1);
    }

    private static void agreeWithFloatsAlike() {
        // two FLOATS at one MINUTE that differ by twice the ERROR, and by one more
        SlackRace x = floats(1000, 5);
        x.cast(250, 100);
        x.cast(250, 110);
        // of 105 alone: no HEIGHT by PHASE 0, but 110 by another
        int pairs = x.agree(0, 0);
        is("33 105 alone", pairs > 0 ? 1 : 0, 1);
        is("33 least HEIGHT", x.agree(0, 1), 110);
        SlackRace y = floats(1000, 5);
        y.cast(250, 100);
        y.cast(250, 111);
        is("33 none", y.agree(0, 0), 0);
        for (int what = 1; what <= 5; what++) {
            is("33 NONE, but for 0", y.agree(0, what), NONE);
        }
        is("33 the greatest LEVELS", y.cast(0, 9999) + y.cast(0, -9999), 2 + 3);
        is("33 none", y.agree(3, 0), 0);
        is("33 none", y.agree(3, 5), NONE);
    }

    /** "The float that TELLS most: without which most pairs AGREE; the lowest." */
    private static void tellsWithoutWhich() {
        SlackRace x = floats(1000, 0);
        is("34 no FLOATS", x.tells(0), NONE);
        x.cast(250, 500);
        is("34 one", x.tells(0), 0);
        is("34 one, of another MOON", x.tells(3), 0);
        // eleven alike and one odd one: without it one pair agrees
        for (int i = 1; i < 11; i++) {
            x.cast(250, 500);
        }
        is("34 alike: the lowest", x.tells(0), 0);
        x.cast(250, 499);
        is("34 the last of twelve", x.tells(0), 11);
        // MOON 1 has 500 at 250, too, by PHASE 650 of 720
        is("34 of another MOON as well", x.tells(1), 11);
        // the first tells PHASE and HEIGHT, the second only that it is low at 750
        SlackRace y = floats(1000, 5);
        y.cast(750, -100);
        y.cast(0, 0);
        int without0 = pairsOf(5, 0, 0);
        int without1 = pairsOf(5, 750, -100);
        is("34 counted by hand", y.tells(0), without1 > without0 ? 1 : 0);
        is("34 they differ", without0 == without1 ? 1 : 0, 0);
    }

    private static int pairsOf(int error, int minute, int level) {
        SlackRace x = floats(1000, error);
        x.cast(minute, level);
        return x.agree(0, 0);
    }

    // ---- the RULE

    /** All slack; a single top, if it is one, at a MINUTE, of a PERIOD of 2000. */
    private static SlackRace topAt(int minute) {
        SlackRace x = steady(0);
        x.moon(0, 0, 0, 500);
        x.moon(0, 0, 1, 2000);
        x.moon(0, 0, 2, (2500 - minute) % 2000);
        return x;
    }

    /** "HIGH is a MINUTE 60 .. 1379". */
    private static void highFromSixtyTo1379() {
        int[] in = {60, 61, 700, 1378, 1379};
        for (int top : in) {
            SlackRace x = topAt(top);
            is("35 the top", x.level(0, top), 500);
            is("35 HIGH at " + top, x.right(0, 0), 1);
            is("35 from it on, at " + top, x.right(0, 1439), 1440 - top);
            is("36 HIGH at " + top, x.mark(0), 0);
        }
        int[] out = {0, 59, 1380, 1439};
        for (int top : out) {
            SlackRace x = topAt(top);
            is("35 the top", x.level(0, top), 500);
            is("35 no HIGH at " + top, x.right(0, 1439), 0);
            is("36 no HIGH at " + top, x.mark(0), NONE);
        }
    }

    /** "more than in each of the 60 ahead and not less than in each of the 60 behind". */
    private static void highAmongTheSixtyAheadAndBehind() {
        SlackRace x = steady(0);
        x.moon(0, 0, 0, 500);
        x.moon(0, 0, 1, 61);
        // tops at 15 and each 61 behind: 76 .. 1357
        is("35 alike 61 ahead and behind", x.right(0, 0), 22);
        is("35 the first is 76", x.right(0, 1439), 1440 - 76);
        x.moon(0, 0, 1, 60);
        is("35 alike 60 ahead", x.right(0, 1439), 0);
        // 1 more from MINUTE 147 to 853: the top at 195 is more than that at 135, and as high as
        // that at 255, which is no HIGH for it
        x.moon(0, 1, 0, 2);
        x.moon(0, 1, 1, 2000);
        is("35 alike 60 behind", x.right(0, 0), 1);
        is("35 it is at 195", x.right(0, 1439), 1440 - 195);
        // the other way: from 147 on 1 less
        x.moon(0, 1, 2, 1000);
        is("35 less than 60 ahead", x.level(0, 195), 499);
        // it comes back at 854: the top at 855 is more than that at 795
        is("35 it is at 855", x.right(0, 1439), 1440 - 855);
        // and 1 more from 1147 on: the top at 1155
        is("35 two", x.right(0, 0), 2);
        // rising all the time up to MINUTE 500: 60 behind is more, 60 ahead less
        x.moon(0, 1, 0, 100);
        x.moon(0, 1, 2, 0);
        is("35 rising", x.level(0, 435) < x.level(0, 495) ? 1 : 0, 1);
        is("35 none while it rises", x.right(0, 1439), 1440 - 495);
        // by 61 all tops are HIGHS, rising or not
        SlackRace y = steady(0);
        y.moon(0, 0, 0, 500);
        y.moon(0, 0, 1, 61);
        y.moon(0, 1, 0, 10);
        y.moon(0, 1, 1, 2000);
        is("35 more 61 behind", y.level(0, 76) < y.level(0, 137) ? 1 : 0, 1);
        is("35 from the first on", y.right(0, 1439), 1440 - 76);
        // a plain top: its first MINUTE is more than those ahead, the others are not
        SlackRace z = steady(0);
        z.moon(0, 0, 0, 5);
        z.moon(0, 0, 1, 1000);
        int first = 0;
        while (z.level(0, first) < 4) {
            first++;
        }
        is("35 plain, but for its middle", z.level(0, 250) - z.level(0, first), 1);
        z.moon(0, 0, 0, 0);
        is("35 all plain: no HIGH", z.right(0, 1439), 0);
    }

    /** "it is slack from a to b MINUTES behind the latest HIGH (that MINUTE: 0)". */
    private static void ruleFromAToB() {
        // HIGH at 100; slack at 105 and 106 alone
        SlackRace x = topAt(100);
        x.force(Due.makeLaw(x, "gains 0;gains 0-200 if minute=104;gains 200 if minute=106"));
        x.terms(4, 200);
        int all = 1440 - 100;
        is("35 just", x.right(5, 6), all);
        is("35 one too few", x.right(5, 5), all - 1);
        is("35 one too few", x.right(6, 6), all - 1);
        is("35 one too many", x.right(5, 7), all - 1);
        is("35 one too many", x.right(4, 6), all - 1);
        is("35 the HIGH itself", x.right(0, 0), all - 3);
        is("35 beside them", x.right(7, 8), all - 4);
        is("35 a beyond b: never", x.right(6, 5), all - 2);
        is("35 a beyond b: never", x.right(1439, 0), all - 2);
        is("35 always", x.right(0, 1439), 2);
        is("35 the last MINUTE of the day", x.right(1339, 1339), all - 3);
        is("35 beyond the day", x.right(1340, 1439), all - 2);
        is("35 beyond the day", x.right(1439, 1439), all - 2);
        // what is slack ahead of the first HIGH does not matter
        SlackRace y = topAt(100);
        y.force(Due.makeLaw(y, "gains 0;gains 200 if minute = 99"));
        is("35 not slack from the HIGH on", y.flow(100), 200);
        is("35 ahead of it does not matter", y.right(1, 0), 1340);
        is("35 ahead of it does not matter", y.right(0, 1439), 0);
        SlackRace z = topAt(100);
        z.force(Due.makeLaw(z, "gains 0;gains 200 if minute = 100"));
        is("35 slack at the HIGH", z.right(0, 0), 1340);
        is("35 slack at the HIGH", z.mark(0), 0);
    }

    private static void ruleByTheLatestHigh() {
        // HIGHS at 100, 500, 900, 1300; slack 50 behind each but the second
        SlackRace x = ruled("gains 0;gains 0-200 if minute=149 or minute=949 or minute-1000=349;"
                + "gains 200 if minute=150 or minute=950 or minute-1000=350", 200);
        x.moon(0, 0, 0, 500);
        x.moon(0, 0, 1, 400);
        is("35 HIGHS", x.level(0, 100) + x.level(0, 1300), 1000);
        int all = 1340;
        is("35 three of four", x.right(50, 50), all - 1);
        is("35 never", x.right(1, 0), all - 3);
        is("35 by no other HIGH", x.right(450, 450), all - 3);
        is("35 399 behind: three times", x.right(399, 399), all - 3 - 3);
        is("35 400 behind is the next HIGH's 0", x.right(400, 1439), all - 3);
        is("35 139 behind: four times", x.right(139, 139), all - 3 - 4);
        is("35 140 behind: three times", x.right(140, 140), all - 3 - 3);
        is("36 best", x.mark(0), 50);
        // 3 more right, 5 more wrong at 49 or 50: better none at all
        is("36 a wide one: where there is none", x.mark(1), 400);
    }

    private static void ruleWithoutAHigh() {
        SlackRace x = topAt(100);
        is("35 with one", x.right(0, 1439), 1340);
        is("36 with one", x.mark(720), 0);
        x.moon(0, 0, 0, 0);
        is("35 no MINUTE is RIGHT without one", x.right(0, 1439), 0);
        is("35 no MINUTE is RIGHT without one", x.right(9, 3), 0);
        is("36 without one", x.mark(0), NONE);
        is("36 without one", x.mark(720), NONE);
        x.moon(0, 0, 0, 500);
        is("35 with one again", x.right(0, 1439), 1340);
    }

    /** "the lowest a, 0 .. 719, by which a RULE a, a and w is RIGHT most often." */
    private static void markFromNothingTo719() {
        int[] behind = {0, 1, 2, 718, 719};
        for (int at : behind) {
            is("36 slack " + at + " behind alone", slackBehind(at).mark(0), at);
        }
        // 720 behind can't be told by a width of 0: each a is wrong alike
        is("36 720 behind", slackBehind(720).mark(0), 0);
        is("36 720 behind, a width of 1", slackBehind(720).mark(1), 719);
        is("36 719 behind, a width of 1: the lowest", slackBehind(719).mark(1), 718);
        is("36 5 behind, a width of 3: the lowest", slackBehind(5).mark(3), 2);
        // from 719 on the day has 661 MINUTES left, fewer than the 721 of others to be wrong in
        is("36 5 behind, the widest", slackBehind(5).mark(720), 719);
        is("36 721 behind, the widest", slackBehind(721).mark(720), 719);
        is("36 5 behind, a width of 660: the lowest", slackBehind(5).mark(660), 0);
        SlackRace x = topAt(60);
        is("36 slack all day, the widest", x.mark(720), 0);
        is("36 slack all day", x.mark(1), 0);
        is("35 the widest from 719 on", x.right(719, 719 + 720), 1440 - 60 - 719);
    }

    /** A HIGH at 60, slack so many MINUTES behind it alone. */
    private static SlackRace slackBehind(int at) {
        SlackRace x = topAt(60);
        int minute = 60 + at;
        x.force(Due.makeLaw(x, "gains 0;gains 0-200 if minute=" + (minute - 1)
                + ";gains 200 if minute=" + minute));
        x.terms(4, 200);
        return x;
    }

    // ---- LOST things

    /** "in |FLOW| / 10 of a hundred (100 at most)", "else by halves". */
    private static void lostByTenths() {
        int[][] due = {{0, 0}, {9, 0}, {10, 10000}, {19, 10000}, {20, 20000}, {299, 290000},
            {300, 300000}, {989, 980000}, {990, 990000}, {999, 990000}, {1000, 1000000}};
        for (int[] d : due) {
            for (int side = -1; side <= 1; side += 2) {
                SlackRace x = steady(side * d[0]);
                is("37 on, FLOW " + d[0], x.lost(25, 0, 1, 25 + side), d[1]);
                is("37 not back, FLOW " + d[0], x.lost(25, 0, 1, 25 - side), 0);
                is("37 the next row", x.lost(25, 0, 1, 35), (1000000 - d[1]) / 2);
                is("37 the row ahead", x.lost(25, 0, 1, 15), (1000000 - d[1]) / 2);
                is("37 not here", x.lost(25, 0, 1, 25), 0);
            }
        }
        SlackRace y = ruled("gains 500", 1000);
        is("37 2,000 is 100 of a hundred", y.lost(25, 1, 1, 26), 1000000);
        is("37 2,000 is 100 of a hundred", y.lost(25, 1, 1, 35), 0);
        is("37 all six STEPS", y.lost(22, 1, 6, 28), 1000000);
    }

    /** "Beyond the columns it is OUT, beyond the rows, or onto ROCK, it is ASHORE". */
    private static void lostAtTheEdges() {
        SlackRace on = steady(300);
        SlackRace back = steady(-300);
        for (int cell = 0; cell < 50; cell++) {
            boolean last = cell % 10 == 9;
            boolean first = cell % 10 == 0;
            boolean shore = cell < 10 || cell >= 40;
            is("37 OUT from " + cell, on.lost(cell, 0, 1, 50), last ? 300000 : 0);
            is("37 OUT from " + cell, back.lost(cell, 0, 1, 50), first ? 300000 : 0);
            if (!last) {
                is("37 on from " + cell, on.lost(cell, 0, 1, cell + 1), 300000);
            } else if (cell < 49) {
                is("37 not round from " + cell, on.lost(cell, 0, 1, cell + 1), 0);
            }
            if (!first) {
                is("37 back from " + cell, back.lost(cell, 0, 1, cell - 1), 300000);
            } else if (cell > 0) {
                is("37 not round from " + cell, back.lost(cell, 0, 1, cell - 1), 0);
            }
            is("37 ASHORE from " + cell, on.lost(cell, 0, 1, 51), shore ? 350000 : 0);
            if (cell < 40) {
                is("37 next row from " + cell, on.lost(cell, 0, 1, cell + 10), 350000);
            }
            if (cell >= 10) {
                is("37 row ahead from " + cell, on.lost(cell, 0, 1, cell - 10), 350000);
            }
        }
        // ROCK on all sides
        SlackRace x = steady(300);
        x.kind(26, 0);
        is("37 onto ROCK", x.lost(25, 0, 1, 51), 300000);
        x.kind(15, 0);
        is("37 onto ROCK", x.lost(25, 0, 1, 51), 650000);
        x.kind(35, 0);
        is("37 onto ROCK", x.lost(25, 0, 1, 51), 1000000);
        is("37 not afloat on ROCK", x.lost(25, 0, 1, 26), 0);
        is("37 not afloat on ROCK", x.lost(25, 0, 1, 15), 0);
        is("37 ROCK at first", x.lost(26, 0, 1, 51), NONE);
        is("37 ROCK at first", x.lost(26, 0, 0, 26), NONE);
        is("37 ROCK at first", x.lost(26, 0, 0, 51), NONE);
        // OUT, though a ROCK is where a row would go on
        SlackRace y = steady(1000);
        y.kind(30, 0);
        is("37 OUT", y.lost(29, 0, 1, 50), 1000000);
        y.kind(0, 0);
        y.kind(9, 1);
        is("37 ASHORE from the first row", steady(0).lost(0, 0, 1, 51), 500000);
    }

    /** "there it stays." */
    private static void lostStays() {
        SlackRace x = steady(1000);
        for (int n = 0; n <= 6; n++) {
            is("37 OUT behind " + n, x.lost(27, 0, n, 50), n >= 3 ? 1000000 : 0);
            is("37 afloat behind " + n, x.lost(27, 0, n, 29), n == 2 ? 1000000 : 0);
        }
        x.kind(29, 0);
        for (int n = 0; n <= 6; n++) {
            is("37 ASHORE behind " + n, x.lost(27, 0, n, 51), n >= 2 ? 1000000 : 0);
        }
        // half of it is ASHORE at once, the other half comes and goes
        SlackRace y = steady(0);
        is("37 first row", y.lost(5, 0, 1, 51), 500000);
        is("37 first row, two", y.lost(5, 0, 2, 51), 500000);
        is("37 first row, three", y.lost(5, 0, 3, 51), 625000);
        for (int n = 0; n <= 6; n++) {
            long all = 0;
            for (int where = 0; where <= 51; where++) {
                all += y.lost(22, 0, n, where);
            }
            is("37 all together", all, 1000000);
        }
    }

    private static void lostByTheFlowOfEachStep() {
        // 1,000 at MINUTES 0 .. 10, then 0
        SlackRace x = ruled("gains 0;gains 0-500 if minute=10 or minute=11", 1000);
        is("37 STEP 0", x.lost(22, 0, 1, 23), 1000000);
        is("37 STEP 1", x.lost(22, 0, 2, 24), 1000000);
        is("37 STEP 2", x.lost(22, 0, 3, 34), 500000);
        is("37 from STEP 1", x.lost(22, 1, 1, 23), 1000000);
        is("37 from STEP 2", x.lost(22, 2, 1, 32), 500000);
        // to STEP 143: by the FLOW of STEP 142
        SlackRace y = ruled("gains 0;gains 500 if minute-1000=418 or minute-1000=419;"
                + "gains 0-500 if minute-1000=420 or minute-1000=421", 0);
        is("37 FLOW at STEP 142", y.flow(1420), 1000);
        is("37 the last STEP", y.lost(22, 142, 1, 23), 1000000);
        is("37 at the last STEP", y.lost(22, 143, 0, 22), 1000000);
        is("37 beyond it", y.lost(22, 143, 1, 23), NONE);
        is("37 to it", y.lost(22, 137, 6, 22) >= 0 ? 1 : 0, 1);
        is("37 beyond it", y.lost(22, 138, 6, 22), NONE);
        // by the KIND of the CELL where it is
        SlackRace z = steady(400);
        z.kind(22, 3);
        is("37 TAIL", z.lost(22, 0, 1, 23), 100000);
        z.kind(22, 2);
        is("37 EDDY", z.lost(22, 0, 1, 21), 200000);
        z.kind(22, 4);
        is("37 BOIL", z.lost(22, 0, 1, 23), 500000);
        z.kind(22, 5);
        is("37 STANDING", z.lost(22, 0, 1, 23), 400000);
    }

    /** "in millionths, cut". */
    private static void lostIsCutInTheEnd() {
        SlackRace x = steady(300);
        // .3 to the sixth is 729 millionths
        is("37 six on", x.lost(20, 0, 6, 26), 729);
        // .35 to the fourth is 15,006.25 millionths
        is("37 four rows", x.lost(5, 0, 4, 45), 15006);
        // 5 ways of .3 and four times .35: 22,509.375 millionths
        is("37 five ways", x.lost(5, 0, 5, 46), 22509);
        is("37 beyond reach", x.lost(5, 0, 3, 45), 0);
        SlackRace y = steady(990);
        is("37 half of a hundredth", y.lost(25, 0, 1, 35), 5000);
        is("37 its square", y.lost(5, 0, 2, 25), 25);
        // .125 of a millionth is cut
        is("37 its third power", y.lost(5, 0, 3, 35), 0);
        // 3 ways of .99 times 25 are 74.25
        is("37 three ways", y.lost(5, 0, 3, 26), 74);
        // .99 to the sixth
        is("37 six on", y.lost(22, 0, 6, 28), 941480);
    }

    // ---- DRAWN DAYS

    /** "s becomes (s times 1103 and 12345) modulo 1,000,003 .. of each 60 MINUTES". */
    private static void drawnWinds() {
        int[] seeds = {0, 1, 896, 999999, 1000000};
        for (int seed : seeds) {
            SlackRace x = ruled("gains wind", 0);
            x.terms(9, 40);
            x.day(seed);
            long s = seed;
            int flow = 0;
            for (int hour = 0; hour < 24; hour++) {
                s = (s * 1103 + 12345) % 1000003;
                int wind = (int) (s % 41) - 20;
                is("39 seed " + seed + ", hour " + hour, x.drawn(hour * 60), flow);
                int to = hour < 23 ? 60 : 59;
                int last = Math.max(-2000, Math.min(2000, flow + 59 * wind));
                is("39 seed " + seed + ", its last MINUTE", x.drawn(hour * 60 + 59), last);
                for (int i = 0; i < to; i++) {
                    flow = Math.max(-2000, Math.min(2000, flow + wind));
                }
            }
            is("13 the day itself", x.flow(10), 400);
        }
    }

    /** "in the place of the WIND": for LEVELS and the word, not for the GLASS. */
    private static void drawnInThePlaceOfTheWind() {
        // 12345 modulo 41 is 4: the first WIND of SEED 0 is -16
        SlackRace x = new SlackRace();
        x.terms(0, 1);
        x.terms(1, 0);
        x.terms(2, 1);
        x.sea(0, 2, 2);
        x.sea(1, 2, -1);
        x.sea(0, 1, 1);
        x.terms(9, 40);
        x.terms(10, 1003);
        x.day(0);
        is("39 three times the WIND, and the GLASS", x.drawn(1), 3 * -16 + 10);
        is("12 the day itself", x.level(0, 0), 2 * 40 + 10);
        is("13 the day itself", x.flow(1), 3 * 40 + 10);
        Due.rule(x, "gains wind + glass - 1000");
        x.day(0);
        is("39 the words", x.drawn(1), -16 + 3);
        // how many SLACKS: -16 a MINUTE from 40 on
        SlackRace y = ruled("gains wind;gains 0 if minute > 2", 40);
        y.terms(3, 10);
        // 40, 24, 8, -8, then -8 for ever
        is("38 one SLACK", y.day(0), 1);
        y.terms(3, 7);
        is("38 none", y.day(0), 0);
        y.terms(3, 40);
        is("38 all day", y.day(0), 1);
        is("13 without the WIND", y.flow(5), 40);
        SlackRace z = ruled("gains wind;gains 0-wind if minute-minute/2*2 = 1", 0);
        z.terms(3, 0);
        // it goes and comes each two MINUTES, but where the WIND is 0 it stays: a row more begins
        // behind each of the others
        z.day(5);
        int due = 1;
        long s = 5;
        for (int hour = 0; hour < 24; hour++) {
            s = (s * 1103 + 12345) % 1000003;
            due += s % 41 == 20 ? 0 : hour < 23 ? 30 : 29;
            is("39 its WIND", z.drawn(hour * 60 + 1), (int) (s % 41) - 20);
        }
        is("38 many SLACKS", z.day(5), due);
    }

    private static void drawnIsKeptAsTheLatest() {
        SlackRace x = ruled("gains wind", 0);
        is("39 ahead of any", x.drawn(0), NOTHING);
        is("38 refused", x.day(1000001), -1);
        is("39 ahead of any but a refused one", x.drawn(0), NOTHING);
        x.day(0);
        is("39 the first", x.drawn(1), -16);
        x.day(-1);
        is("39 a refused one does not matter", x.drawn(1), -16);
        x.day(1);
        // 1103 and 12345 are 13448: modulo 41 it is 0
        is("39 the latest", x.drawn(1), -20);
        x.force(NONE);
        x.terms(4, 500);
        is("39 kept", x.drawn(1), -20);
        is("39 kept", x.drawn(0), 0);
        x.flow(0);
        x.late(0);
        x.taken(3);
        is("39 kept", x.drawn(1), -20);
    }

    // ---- IMAGES

    /** All that has a number or a value, by an odd number k. */
    private static void fill(SlackRace x, int k) {
        for (int end = 0; end < 2; end++) {
            x.sea(end, 0, k + end);
            x.sea(end, 1, k % 3);
            x.sea(end, 2, k % 5);
            for (int moon = 0; moon < 4; moon++) {
                x.moon(end, moon, 0, k + moon + end);
                x.moon(end, moon, 1, 300 + k + moon);
                x.moon(end, moon, 2, k + moon + end);
            }
        }
        int[] terms = {8, 10, 40, 50, 0, 20, 100, 2, 5, 0, 1013};
        for (int what = 0; what <= 10; what++) {
            x.terms(what, terms[what] + k);
        }
        for (int cell = 0; cell < 50; cell++) {
            x.kind(cell, (cell + k) % 6);
        }
        for (int i = 0; i < 3; i++) {
            Due.makeLaw(x, "gains " + (k + i));
            x.boat(100 + 10 * k + i, 10 + k + i);
            x.ship(100 + 10 * k + i, 10 + k + i, 1000 + k);
            x.cast(100 + 10 * k + i, k + i);
            x.move((k + i) % 5);
        }
        x.force(k % 3);
    }

    /** As fill left it. */
    private static void filled(SlackRace x, int k) {
        int[] terms = {8, 10, 40, 50, 0, 20, 100, 2, 5, 0, 1013};
        for (int what = 0; what <= 10; what++) {
            is("41 terms " + what, x.terms(what, terms[what] + k), terms[what] + k);
        }
        for (int end = 0; end < 2; end++) {
            is("41 MEAN", x.sea(end, 0, k + end), k + end);
            is("41 ANSWER", x.sea(end, 1, k % 3), k % 3);
            is("41 SET", x.sea(end, 2, k % 5), k % 5);
            for (int moon = 0; moon < 4; moon++) {
                is("41 HEIGHT", x.moon(end, moon, 0, k + moon + end), k + moon + end);
                is("41 PERIOD", x.moon(end, moon, 1, 300 + k + moon), 300 + k + moon);
                is("41 PHASE", x.moon(end, moon, 2, k + moon + end), k + moon + end);
            }
        }
        for (int cell = 0; cell < 50; cell++) {
            is("41 KIND", x.cell(cell, 0, 2), (cell + k) % 6);
        }
        for (int what = 0; what < 5; what++) {
            is("41 how many " + what, x.count(what), 3);
        }
        is("41 in FORCE", x.count(10), k % 3);
        is("41 LAW", x.flow(1) - x.flow(0), k + k % 3);
    }

    /** "IMAGES 0, 1 keep all but ..": "all that it keeps is as it was then". */
    private static void imagesKeepAll() {
        for (int k = 0; k < 2; k++) {
            SlackRace x = new SlackRace();
            x.image(1 - k);
            fill(x, 1);
            is("40 kept", x.image(k), 0);
            x.back(1 - k);
            for (int what = 0; what < 5; what++) {
                is("41 new again", x.count(what), 0);
            }
            is("41 new again", x.count(10), NONE);
            is("41 new again", x.terms(0, 8), 8);
            fill(x, 4);
            is("41 back", x.back(k), 0);
            filled(x, 1);
            x.back(k);
            x.back(1 - k);
            is("41 back to the first", x.count(0), 0);
            is("41 back to the first", x.moon(1, 3, 1, 720), 720);
        }
    }

    /** Of BOATS, SHIPS, FLOATS, LAWS and moves not how many alone, but what they are. */
    private static void imagesKeepWhatWasThere() {
        SlackRace x = steady(0);
        x.terms(8, 0);
        x.moon(0, 0, 1, 1000);
        x.image(0);
        x.boat(200, 20);
        x.ship(50, 20, 30);
        x.cast(250, 500);
        Due.makeLaw(x, "gains 3");
        x.move(1);
        x.image(1);
        x.back(0);
        x.boat(50, 5);
        x.ship(70, 40, 10);
        x.cast(0, 300);
        Due.makeLaw(x, "gains 4");
        x.move(4);
        is("20 another BOAT", x.soonest(0, 0, 22, 23), NONE);
        is("29 another SHIP", x.begins(0), 70);
        is("33 another FLOAT", x.agree(0, 5) == 0 ? 1 : 0, 0);
        x.back(1);
        is("41 PACE", x.soonest(0, 0, 22, 23), 1);
        is("41 the move", x.done(0, 0, 2, 0), 1);
        is("41 READY", x.begins(0), 50);
        is("41 MINUTE and LEVEL of the FLOAT", x.agree(0, 0), 1);
        is("41 MINUTE and LEVEL of the FLOAT", x.agree(0, 5), 0);
        x.ship(50, 30, 30);
        // the shorter one goes ahead: 20
        is("41 PASS", x.order(NONE), 20);
        is("41 PASS", x.order(0), 0);
        x.back(1);
        x.terms(4, 30);
        is("41 LIMIT", x.begins(0), 50);
        x.terms(4, 31);
        is("41 LIMIT", x.begins(0), NONE);
        x.back(1);
        x.force(1);
        is("41 the LAW", x.flow(1), 3);
        x.force(Due.makeLaw(x, "gains 0;white 20"));
        is("41 BEARS", x.soonest(0, 0, 22, 22), 0);
        x.force(Due.makeLaw(x, "gains 0;white 21"));
        is("41 BEARS", x.soonest(0, 0, 22, 22), NONE);
        // what is added behind a BACK does not come to the image
        x.back(1);
        is("41 LAWS", x.count(2), 2);
        is("41 the first LAW is in FORCE", x.count(10), 0);
        is("41 numbers go on from there", x.boat(1, 1), 1);
        is("41 numbers go on from there", x.ship(1, 1, 1), 1);
        is("41 numbers go on from there", x.cast(1, 1), 1);
        is("41 numbers go on from there", Due.makeLaw(x, "gains 1"), 2);
        is("41 numbers go on from there", x.move(1), 2);

        // the first LAW of all, too
        SlackRace y = new SlackRace();
        y.image(0);
        Due.rule(y, "gains 5");
        y.image(1);
        y.back(0);
        Due.rule(y, "gains 6");
        is("11 another LAW", y.flow(1), 6);
        y.back(1);
        is("41 the LAW", y.flow(1), 5);
        is("41 in FORCE", y.count(10), 0);
    }

    /** "(IMAGES stay)", and a new one takes the place of the old one. */
    private static void imagesStay() {
        SlackRace x = new SlackRace();
        is("41 not kept", x.back(0), -2);
        is("41 not kept", x.back(1), -2);
        x.kind(7, 2);
        x.image(0);
        is("41 the other is not kept", x.back(1), -2);
        x.kind(7, 3);
        for (int i = 0; i < 3; i++) {
            is("41 back", x.back(0), 0);
            is("41 as it was then", x.kind(7, 4), 2);
        }
        x.image(0);
        x.kind(7, 5);
        x.back(0);
        is("40 the new one", x.kind(7, 1), 4);
        is("41 the other is not kept yet", x.back(1), -2);
        is("41 counted", x.count(7), 4);
        // an image of an image's state
        x.back(0);
        x.image(1);
        x.kind(7, 1);
        x.image(0);
        x.back(1);
        is("41 the other", x.cell(7, 0, 2), 4);
        x.back(0);
        is("41 the one", x.cell(7, 0, 2), 1);
    }

    /** "all but the TAPE, FAULT, FOUL, the latest DRAWN DAY"; "(IMAGES do not keep that)". */
    private static void imagesKeepNot() {
        SlackRace x = ruled("gains wind", 0);
        Due.makeLaw(x, "gains ?");
        Due.row(x, 1, 9);
        x.day(0);
        x.feed(0, 0, 0, 0, 0);
        x.image(0);
        x.feed(0x01010101, 0, 0, 0, 0);
        x.end(33);
        x.back(0);
        is("41 the TAPE", x.count(5), 33);
        is("41 its bytes", x.row(), 33);
        is("41 its bytes", x.cell(20, 0, 2), 1);
        is("41 its bytes", x.cell(24, 0, 2), 0);
        Due.makeLaw(x, "  ?");
        Due.row(x, 9, 9, 9);
        x.day(1);
        x.sea(5, 5, 5);
        x.force(5);
        for (int i = 0; i < 7; i++) {
            x.boat(1, 1);
        }
        x.back(0);
        is("41 FAULT", x.fault(), 2);
        is("41 FOUL", x.foul(), 3);
        is("41 the latest DRAWN DAY", x.drawn(1), -20);
        is("42 by -1", x.count(6), 1);
        is("42 by -2", x.count(7), 1);
        is("42 by -5", x.count(8), 1);
        is("42 by -6", x.count(9), 2);
        is("43 back itself was not", x.status(), 0);
        // a DRAWN DAY that was none then stays one
        SlackRace y = new SlackRace();
        y.image(0);
        y.day(0);
        y.back(0);
        is("41 the latest DRAWN DAY", y.drawn(0), 0);
    }

    // ---- what is counted

    /** "6 .. 9 how many calls were REFUSED by -1, -2, -5, -6". */
    private static void refusalsAreCounted() {
        SlackRace x = new SlackRace();
        int by1 = 0;
        x.sea(2, 0, 0);
        x.moon(0, 4, 0, 0);
        x.terms(11, 0);
        x.kind(50, 0);
        x.boat(0, 0);
        x.move(5);
        x.ship(0, 0, 0);
        x.cast(1440, 0);
        x.day(-1);
        x.image(2);
        x.back(2);
        by1 += 11;
        is("42 by -1", x.count(6), by1);
        is("42 not by -2", x.count(7), 0);
        x.force(0);
        x.back(0);
        is("42 by -2", x.count(7), 2);
        x.row();
        x.law();
        is("42 by -6", x.count(9), 2);
        is("42 not by -5", x.count(8), 0);
        int[] room = {6, 6, 40, 12};
        for (int i = 0; i <= room[0]; i++) {
            x.boat(1, 1);
        }
        for (int i = 0; i <= room[1]; i++) {
            x.ship(1, 1, 1);
        }
        for (int i = 0; i <= room[2]; i++) {
            x.move(1);
        }
        for (int i = 0; i <= room[3]; i++) {
            x.cast(1, 1);
        }
        for (int i = 0; i <= 6; i++) {
            Due.makeLaw(x, "gains 1");
        }
        is("42 by -5", x.count(8), 5);
        is("42 by -1 still", x.count(6), by1);
        is("42 by -2 still", x.count(7), 2);
        is("42 by -6 still", x.count(9), 2);
        // what is not there is no REFUSED call, nor is a TAPE that is full or too short
        x.level(9, 9);
        x.flow(9999);
        x.cell(99, 0, 0);
        x.slack(99, 0);
        x.late(99);
        x.soonest(9, 0, 0, 0);
        x.way(9, 0, 0, 0, 0);
        x.calmest(9, 0, 0, 0);
        x.latest(9, 0, 0, 0);
        x.done(9, 0, 0, 0);
        x.margin(9, 0, 0);
        x.order(99);
        x.begins(99);
        x.taken(99);
        x.most(9, 9);
        x.agree(9, 9);
        x.tells(9);
        x.right(-1, -1);
        x.mark(-1);
        x.lost(99, 0, 0, 0);
        x.drawn(-1);
        x.count(99);
        x.end(999);
        for (int i = 0; i < 21; i++) {
            x.feed(0, 0, 0, 0, 0);
        }
        is("42 by -1 still", x.count(6), by1);
        is("42 by -2 still", x.count(7), 2);
        is("42 by -5 still", x.count(8), 5);
        is("42 by -6 still", x.count(9), 2);
        is("42 TAPE", x.count(5), 400);
        is("42 others", x.count(-1), NONE);
        is("42 others", x.count(11), NONE);
    }

    /** One of the fourteen calls that status() tells of: taken, or REFUSED by a number. */
    private static int oneOf(SlackRace x, int call, boolean taken) {
        int n = taken ? 0 : 99;
        switch (call) {
            case 0:
                return x.sea(n, 0, 0);
            case 1:
                return x.moon(n, 0, 0, 0);
            case 2:
                return x.terms(n, 0);
            case 3:
                x.feed(0, 0, 0, 0, 0);
                x.end(taken ? 1 : 0);
                return x.row();
            case 4:
                x.end(0);
                return Due.makeLaw(x, taken ? "gains 1" : "gains");
            case 5:
                return x.force(taken ? NONE : n);
            case 6:
                return x.kind(n, 0);
            case 7:
                return x.boat(1, taken ? 0 : 100);
            case 8:
                return x.move(n);
            case 9:
                return x.ship(0, 1, taken ? 0 : 2001);
            case 10:
                return x.cast(taken ? 0 : 1440, 0);
            case 11:
                return x.day(taken ? 0 : -1);
            case 12:
                return x.image(n);
            default:
                x.image(0);
                return x.back(n);
        }
    }

    /** "What the latest call of .. was REFUSED by; 0 if it was not, or ahead of any." */
    private static void statusOfEachCall() {
        int[] codes = {-1, -1, -1, -6, -6, -2, -1, -1, -1, -1, -1, -1, -1, -1};
        for (int call = 0; call < 14; call++) {
            SlackRace x = new SlackRace();
            is("43 ahead of any", x.status(), 0);
            is("43 call " + call, oneOf(x, call, false), codes[call]);
            is("43 call " + call + " was refused", x.status(), codes[call]);
            others(x);
            is("43 call " + call + ": others do not matter", x.status(), codes[call]);
            oneOf(x, call, true);
            is("43 call " + call + " was taken", x.status(), 0);
            others(x);
            is("43 call " + call + ": others do not matter", x.status(), 0);
            for (int next = 0; next < 14; next++) {
                oneOf(x, next, false);
                is("43 behind one of another kind", x.status(), codes[next]);
                oneOf(x, call, true);
                is("43 call " + call + " was taken, behind " + next, x.status(), 0);
                x.back(0);
                x.tear();
                x.image(0);
                x.end(0);
                if (x.count(0) + x.count(1) + x.count(2) + x.count(4) > 3) {
                    x = new SlackRace();
                }
            }
        }
        SlackRace y = new SlackRace();
        y.back(1);
        is("43 -2", y.status(), -2);
        for (int i = 0; i < 7; i++) {
            y.boat(1, 1);
        }
        is("43 -5", y.status(), -5);
        y.boat(0, 1);
        is("43 -1", y.status(), -1);
        y.sea(0, 0, -1);
        is("43 taken", y.status(), 0);
        is("43 -1 as what it was", y.sea(0, 0, 0), -1);
        is("43 that was taken", y.status(), 0);
        is("43 NONE as what was in FORCE", y.force(NONE), NONE);
        is("43 that was taken", y.status(), 0);
    }

    private static void others(SlackRace x) {
        x.feed(0, 0, 0, 0, 0);
        x.end(999);
        x.end(0);
        x.foul();
        x.fault();
        x.level(9, 9);
        x.flow(-1);
        x.cell(0, 0, 9);
        x.slack(9, 9);
        x.late(9);
        x.soonest(9, 9, 9, 9);
        x.way(9, 9, 9, 9, 9);
        x.calmest(9, 9, 9, 9);
        x.latest(9, 9, 9, 9);
        x.tear();
        x.done(9, 9, 9, 9);
        x.margin(9, 9, 9);
        x.order(9);
        x.begins(9);
        x.taken(-1);
        x.most(9, 9);
        x.agree(9, 9);
        x.tells(9);
        x.right(-1, 0);
        x.mark(-1);
        x.lost(9, 9, 9, 9);
        x.drawn(-1);
        x.count(99);
    }

    /** "at most 512 calls": the last of them is answered as the first. */
    private static void to512Calls() {
        SlackRace x = new SlackRace();
        for (int i = 1; i <= 510; i++) {
            is("2 call " + i, x.sea(0, 0, i % 500), i == 1 ? 0 : (i - 1) % 500);
        }
        is("12 the 511th", x.level(0, 0), 10);
        is("13 the 512th", x.flow(0), 0);
        SlackRace y = new SlackRace();
        for (int i = 1; i <= 511; i++) {
            y.boat(0, 0);
        }
        is("42 all 511 were counted", y.count(6), 511);
    }
}
