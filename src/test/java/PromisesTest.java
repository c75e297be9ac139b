/** Promise by promise: ordinary calls, the edges that the document names, wrong numbers. */
public final class PromisesTest {
    private static final int NONE = SlackRace.NONE;
    private static final int NOTHING = SlackRace.NOTHING;
    private static final Due DUE = new Due();

    public static void main(String[] args) {
        newObject();
        seas();
        moons();
        termsOfAll();
        tape();
        rowsOfKinds();
        lawsThatCanBe();
        lawsWithFaults();
        lawRoom();
        forces();
        whatLawsTell();
        brokenSums();
        levels();
        flows();
        kindsAndCells();
        whites();
        slacks();
        lates();
        boats();
        soonestWays();
        firstWays();
        calmestWays();
        latestStarts();
        plans();
        margins();
        ships();
        bestOrders();
        turbines();
        floats();
        agreements();
        tellingFloats();
        rules();
        marks();
        lostThings();
        drawnDays();
        images();
        counts();
        statuses();
        DUE.close("PromisesTest");
    }

    private static void is(String what, long got, long want) {
        DUE.is(what, got, want);
    }

    /** Low water at 0 and 720, high at 360, at END 0; nothing moves by itself. */
    private static SlackRace stillSea() {
        SlackRace x = new SlackRace();
        Due.rule(x, "gains 0");
        return x;
    }

    // ---- promise 1

    private static void newObject() {
        SlackRace x = new SlackRace();
        for (int what = 0; what <= 9; what++) {
            is("1 count " + what, x.count(what), 0);
        }
        is("1 in force", x.count(10), NONE);
        is("1 status", x.status(), 0);
        is("1 fault", x.fault(), NONE);
        is("1 foul", x.foul(), 0);
        is("1 drawn", x.drawn(0), NOTHING);
        is("1 tear", x.tear(), 0);
        is("1 no image", x.back(0), -2);
        for (int cell = 0; cell < 50; cell++) {
            is("1 kind", x.cell(cell, 0, 2), 1);
        }
        int[] first = {8, 10, 40, 50, 0, 20, 100, 2, 5, 0, 1013};
        for (int what = 0; what <= 10; what++) {
            is("1 term " + what, x.terms(what, first[what]), first[what]);
        }
        for (int end = 0; end < 2; end++) {
            for (int what = 0; what < 3; what++) {
                is("1 sea", x.sea(end, what, 0), 0);
            }
            for (int moon = 0; moon < 4; moon++) {
                is("1 height", x.moon(end, moon, 0, 0), 0);
                is("1 period", x.moon(end, moon, 1, 720), 720);
                is("1 phase", x.moon(end, moon, 2, 0), 0);
            }
        }
    }

    // ---- promises 2 to 4

    private static void refused(SlackRace x, String what, int got, int code) {
        is(what, got, code);
        is(what + ": status", x.status(), code);
    }

    private static void seas() {
        SlackRace x = new SlackRace();
        int[] least = {-500, 0, -5};
        int[] most = {500, 3, 5};
        for (int end = 0; end < 2; end++) {
            for (int what = 0; what < 3; what++) {
                is("2 least", x.sea(end, what, least[what]), 0);
                is("2 most", x.sea(end, what, most[what]), least[what]);
                refused(x, "2 below", x.sea(end, what, least[what] - 1), -1);
                refused(x, "2 above", x.sea(end, what, most[what] + 1), -1);
                is("2 as it was", x.sea(end, what, 1), most[what]);
            }
        }
        refused(x, "2 end", x.sea(2, 0, 0), -1);
        refused(x, "2 end", x.sea(-1, 0, 0), -1);
        refused(x, "2 what", x.sea(0, 3, 0), -1);
        refused(x, "2 what", x.sea(0, -1, 0), -1);
        x.sea(0, 0, -1);
        is("2 what it was is -1", x.sea(0, 0, 7), -1);
        is("2 that is no refusal", x.status(), 0);
        is("2 ends apart", x.level(0, 0), 7);
        is("2 ends apart", x.level(1, 0), 1);
    }

    private static void moons() {
        SlackRace x = new SlackRace();
        int[] least = {0, 60, 0};
        int[] most = {500, 2000, 1999};
        int[] first = {0, 720, 0};
        for (int end = 0; end < 2; end++) {
            for (int moon = 0; moon < 4; moon++) {
                for (int what = 0; what < 3; what++) {
                    is("3 least", x.moon(end, moon, what, least[what]), first[what]);
                    is("3 most", x.moon(end, moon, what, most[what]), least[what]);
                    refused(x, "3 below", x.moon(end, moon, what, least[what] - 1), -1);
                    refused(x, "3 above", x.moon(end, moon, what, most[what] + 1), -1);
                    is("3 as it was", x.moon(end, moon, what, 100), most[what]);
                    is("3 back", x.moon(end, moon, what, first[what]), 100);
                }
            }
        }
        refused(x, "3 end", x.moon(2, 0, 0, 0), -1);
        refused(x, "3 moon", x.moon(0, 4, 0, 0), -1);
        refused(x, "3 moon", x.moon(0, -1, 0, 0), -1);
        refused(x, "3 what", x.moon(0, 0, 3, 100), -1);
    }

    private static void termsOfAll() {
        SlackRace x = new SlackRace();
        int[] least = {0, 0, 1, 0, -1000, 0, 1, 0, 0, -40, 950};
        int[] most = {50, 50, 500, 500, 1000, 60, 500, 20, 50, 40, 1050};
        int[] first = {8, 10, 40, 50, 0, 20, 100, 2, 5, 0, 1013};
        for (int what = 0; what <= 10; what++) {
            is("4 least", x.terms(what, least[what]), first[what]);
            is("4 most", x.terms(what, most[what]), least[what]);
            refused(x, "4 below", x.terms(what, least[what] - 1), -1);
            refused(x, "4 above", x.terms(what, most[what] + 1), -1);
            is("4 as it was", x.terms(what, first[what]), most[what]);
        }
        refused(x, "4 what", x.terms(11, 0), -1);
        refused(x, "4 what", x.terms(-1, 0), -1);
    }

    // ---- promises 5 to 8

    private static void tape() {
        SlackRace x = new SlackRace();
        for (int n = 20; n <= 400; n += 20) {
            is("5 feed", x.feed(0, 0, 0, 0, 0), n);
        }
        is("5 full", x.feed(0, 0, 0, 0, 0), NONE);
        is("5 full: still", x.count(5), 400);
        is("5 no refusal", x.status(), 0);
        is("6 beyond", x.end(401), NONE);
        is("6 below", x.end(-1), NONE);
        is("6 same", x.end(400), 400);
        is("6 cut", x.end(381), 381);
        is("5 19 are left", x.feed(0, 0, 0, 0, 0), NONE);
        is("6 cut", x.end(380), 380);
        is("5 20 are left", x.feed(0, 0, 0, 0, 0), 400);
        is("6 none", x.end(0), 0);
        is("6 gone", x.end(1), NONE);
        // the highest byte first, the numbers in their order
        x.feed(0x00010203, 0x04050001, 0x02030405, 0x05040302, 0x01000504);
        is("7 twenty", x.row(), 20);
        int[] kinds = {0, 1, 2, 3, 4, 5, 0, 1, 2, 3, 4, 5, 5, 4, 3, 2, 1, 0, 5, 4, 1};
        for (int cell = 0; cell < kinds.length; cell++) {
            is("5 byte " + cell, x.cell(cell, 0, 2), kinds[cell]);
        }
    }

    private static void rowsOfKinds() {
        SlackRace x = new SlackRace();
        refused(x, "7 empty", x.row(), -6);
        is("8 ahead of any", x.foul(), 0);
        Due.type(x, "\2\6\3\u00ff\0\200");
        is("7 came", x.row(), 3);
        is("8 foul", x.foul(), 3);
        is("7 tape", x.count(5), 0);
        int[] kinds = {2, 1, 3, 1, 0, 1};
        for (int cell = 0; cell < kinds.length; cell++) {
            is("7 kind " + cell, x.cell(cell, 5, 2), kinds[cell]);
        }
        refused(x, "7 empty again", x.row(), -6);
        is("8 a refused one does not count", x.foul(), 3);
        Due.type(x, "\5".repeat(60));
        is("7 all cells", x.row(), 50);
        is("8 beyond the cells", x.foul(), 10);
        is("7 last cell", x.cell(49, 0, 2), 5);
        Due.type(x, "ab");
        is("7 none came", x.row(), 0);
        is("7 that is no refusal", x.status(), 0);
        is("8 both", x.foul(), 2);
    }

    // ---- promises 9 to 11

    private static void reads(String text) {
        SlackRace x = new SlackRace();
        is("9 reads '" + text + "'", Due.makeLaw(x, text), 0);
        is("10 no fault in '" + text + "'", x.fault(), NONE);
        is("9 status", x.status(), 0);
        is("9 tape", x.count(5), 0);
        is("9 laws", x.count(2), 1);
    }

    private static void faults(String text, int place) {
        SlackRace x = new SlackRace();
        refused(x, "9 reads not '" + text + "'", Due.makeLaw(x, text), -6);
        is("10 fault of '" + text + "'", x.fault(), place);
        is("9 tape", x.count(5), 0);
        is("9 laws", x.count(2), 0);
    }

    private static void lawsThatCanBe() {
        reads("gains 1");
        reads("  gains   1000  ");
        reads("white fall+flow-minute*wind/glass+kind-turbines");
        reads("gains1if2<3");
        reads("gains[1]if(not(1>2))or 1=1and 2<3");
        reads("gains 0000000000001000");
        reads("gains 1 if not not not 1 = 2");
        reads("gains 1 if " + "not ".repeat(96) + "1=1");
        reads("gains 1 if (1+[2*3])<4".replace("(1+[2*3])", "[1+[2*3]]"));
        reads("gains " + "[".repeat(8) + "1" + "]".repeat(8));
        reads("gains 1 if " + "(".repeat(8) + "1=1" + ")".repeat(8));
        reads("gains 1 if ((((" + "[[[[1]]]]=1))))");
        reads("gains 1" + "+1".repeat(49));
        reads("gains 1" + ";white 2".repeat(11));
        // brackets beside one another are not within one another
        reads("gains [1]+[1]+[1]+[1]+[1]+[1]+[1]+[1]+[1]+[1]");
        reads("gains " + " ".repeat(393) + "1");
    }

    private static void lawsWithFaults() {
        faults("", 0);
        faults("   ", 3);
        faults("gains", 5);
        faults("gains  ", 7);
        faults("Gains 1", 0);
        faults("gain 1", 0);
        faults("gainsfall", 0);
        faults("1", 0);
        faults("gains 1001", 6);
        faults("gains 99999999999999999999", 6);
        faults("gains -1", 6);
        faults("gains 1 +", 9);
        faults("gains 1 2", 8);
        faults("gains 1 if", 10);
        faults("gains 1 if 2", 12);
        faults("gains 1 if 2 + 3 ; gains 1", 17);
        faults("gains 1 if 2<", 13);
        faults("gains 1 if 2<3<4", 14);
        faults("gains 1 if (2<3", 15);
        faults("gains 1 if (2)<3", 13);
        faults("gains 1 if [2<3]", 13);
        faults("gains (1)", 6);
        faults("gains [1", 8);
        faults("gains [1)", 8);
        faults("gains 1 if not", 14);
        faults("gains 1 if 1=1 or", 17);
        faults("gains 1 if 1=1 not 2=2", 15);
        faults("gains 1 if 1=1 if 2=2", 15);
        faults("gains 1;", 8);
        faults("gains 1; ;", 9);
        faults("gains 1;flow", 8);
        faults("gains 1.5", 7);
        faults("gains kinds", 6);
        faults("gains gains", 6);
        faults("gains if", 6);
        faults("gains 1\0", 7);
        faults("gains\t1", 5);
        faults("gains 1 or 2", 8);
        faults("gains " + "[".repeat(9) + "1" + "]".repeat(9), 14);
        faults("gains 1 if " + "(".repeat(9) + "1=1" + ")".repeat(9), 19);
        faults("gains 1 if ((((" + "[[[[[1]]]]]=1))))", 19);
        faults("gains 1" + "+1".repeat(50), 6 + 100);
        faults("gains 1" + "+1".repeat(49) + " if 1<2", 105 + 4);
        faults("gains 1" + ";white 2".repeat(12), 7 + 11 * 8 + 1);
        faults("gains 1" + ";white 2".repeat(11) + ";", 7 + 11 * 8 + 1);
        faults("gains 1" + ";white 2".repeat(11) + "; x", 7 + 11 * 8 + 2);
    }

    private static void lawRoom() {
        SlackRace x = new SlackRace();
        for (int i = 0; i < 6; i++) {
            is("9 number", Due.makeLaw(x, "gains " + i), i);
        }
        Due.type(x, "gains");
        refused(x, "9 no room, ahead of reading", x.law(), -5);
        is("10 nothing was read", x.fault(), NONE);
        is("9 the tape is empty all the same", x.count(5), 0);
        is("9 laws", x.count(2), 6);
        refused(x, "9 no room without a tape either", x.law(), -5);

        SlackRace y = new SlackRace();
        Due.makeLaw(y, "gains x");
        is("10 fault", y.fault(), 6);
        Due.makeLaw(y, "gains 1");
        is("10 none in the latest", y.fault(), NONE);
    }

    private static void forces() {
        SlackRace x = new SlackRace();
        is("11 none to none", x.force(NONE), NONE);
        is("11 no refusal", x.status(), 0);
        refused(x, "11 no law", x.force(0), -2);
        Due.makeLaw(x, "gains 1");
        Due.makeLaw(x, "gains 2");
        is("11 not by itself", x.count(10), NONE);
        is("11 first", x.force(1), NONE);
        is("11 in force", x.flow(10), 20);
        is("11 other", x.force(0), 1);
        is("11 in force", x.flow(10), 10);
        refused(x, "11 beyond", x.force(2), -2);
        refused(x, "11 below", x.force(-2), -2);
        is("11 still", x.count(10), 0);
        is("11 none", x.force(NONE), 0);
        is("11 none", x.flow(10), 0);
    }

    // ---- the language (promise 13)

    /** The FLOW at MINUTE 1, from 0, is what "gains" tells at MINUTE 0; NOTHING: it tells none. */
    private static void tells(String clauses, int told) {
        SlackRace x = new SlackRace();
        x.sea(0, 0, 300);
        x.terms(0, 1);
        x.terms(2, 1);
        Due.rule(x, clauses);
        // without a law: fall 300 times 1, by 1
        is("13 '" + clauses + "'", x.flow(1), told == NOTHING ? 300 : told);
    }

    private static void whatLawsTell() {
        tells("gains 1+2*3", 7);
        tells("gains [1+2]*3", 9);
        tells("gains 10-3-2", 5);
        tells("gains 100/7/2", 7);
        tells("gains 100/[7/2]", 33);
        tells("gains [0-7]/2", -3);
        tells("gains 7/[0-2]", -3);
        tells("gains fall", 300);
        tells("gains flow+1", 1);
        tells("gains glass-1000", 13);
        tells("gains wind+kind+turbines+minute", 0);
        tells("gains 501", 500);
        tells("gains 0-501", -500);
        tells("white 5", NOTHING);
        tells("gains 1;white 5;gains 2", 2);
        tells("gains 1;gains 2 if 1=2", 1);
        tells("gains 1 if 1=2", NOTHING);
        tells("gains 1 if 1<2 and 2<3", 1);
        tells("gains 1 if 1<2 and 3<3", NOTHING);
        tells("gains 1 if 2<2 or 3>2", 1);
        tells("gains 1 if 1=1 or 1=1 and 1=2", 1);
        tells("gains 1 if (1=1 or 1=1) and 1=2", NOTHING);
        tells("gains 1 if not 1=2", 1);
        tells("gains 1 if not not 1=2", NOTHING);
        tells("gains 1 if not (1=2 or 2=2)", NOTHING);
        tells("gains 1 if not 1=1 or 2=2", 1);
        tells("gains 1 if not 1=2 and 2=3", NOTHING);
    }

    private static void brokenSums() {
        String big = "1000*1000*1000";
        tells("gains " + big + "/1000/1000/1000", 1);
        tells("gains [" + big + "+1]/1000", NOTHING);
        tells("gains [0-" + big + "]/1000/1000/1000", -1);
        tells("gains [0-" + big + "-1]/1000", NOTHING);
        tells("gains " + big + "*2/1000", NOTHING);
        tells("gains 1/0", NOTHING);
        tells("gains 0*[1/0]", NOTHING);
        tells("gains 3;gains 1/0", 3);
        tells("gains 1 if 1/0=1", NOTHING);
        tells("gains 1 if not 1/0=1", NOTHING);
        tells("gains 1 if 1=1 or 1/0=1", 1);
        tells("gains 1 if 1=2 or 1/0=1", NOTHING);
        tells("gains 1 if 1/0=1 or 1=1", NOTHING);
        tells("gains 1 if not (1=2 and 1/0=1)", 1);
        tells("gains 1 if 1=1 and 1/0=1", NOTHING);
        tells("gains 1 if 1=1 or 1=1 or 1/0=1", 1);
        tells("gains 1 if (1=2 and 1/0=1) or 1=1", 1);
        tells("gains 1 if 1=2 and 1/0=1 or 1=1", 1);
    }

    // ---- promises 12, 13

    private static void levels() {
        SlackRace x = new SlackRace();
        x.moon(0, 0, 0, 100);
        x.moon(0, 0, 1, 1000);
        is("12 up", x.level(0, 125), 75);
        is("12 high", x.level(0, 250), 100);
        is("12 middle", x.level(0, 500), 0);
        is("12 down", x.level(0, 625), -75);
        is("12 low", x.level(0, 750), -100);
        is("12 again", x.level(0, 1125), 75);
        x.moon(0, 0, 2, 1125);
        is("12 phase beyond the period", x.level(0, 0), 75);
        is("12 phase", x.level(0, 125), 100);
        // 10 of 60: x is 666, 888 of 1000; 7 times that is 6.2
        x.moon(1, 3, 0, 7);
        x.moon(1, 3, 1, 60);
        is("12 cut", x.level(1, 10), 6);
        is("12 cut towards 0", x.level(1, 40), -6);
        x.moon(1, 2, 0, 7);
        x.moon(1, 2, 1, 60);
        is("12 each moon cut by itself", x.level(1, 10), 12);
        x.sea(1, 0, -30);
        x.sea(1, 1, 3);
        x.terms(10, 1050);
        is("12 glass", x.level(1, 10), 12 - 30 - 111);
        x.sea(1, 2, -4);
        x.terms(9, -40);
        is("12 wind", x.level(1, 10), 12 - 30 - 111 + 160);
        is("12 other end", x.level(0, 125), 100);
        is("12 end", x.level(2, 0), NOTHING);
        is("12 end", x.level(-1, 0), NOTHING);
        is("12 minute", x.level(0, 1440), NOTHING);
        is("12 minute", x.level(0, -1), NOTHING);
        SlackRace y = new SlackRace();
        y.moon(0, 0, 0, 500);
        // 719 of 720: x is 3994, 1994 * 6 / 1000 is 11; 500 * 11 / 1000 is 5
        is("12 cut each time", y.level(0, 719), -5);
        is("12 last minute", y.level(0, 1439), -5);
        is("12 turn", y.level(0, 720), 0);
    }

    private static void flows() {
        SlackRace x = new SlackRace();
        x.sea(0, 0, 100);
        x.terms(4, -300);
        is("13 start", x.flow(0), -300);
        // (100 * 8 + 300 * 300 * 10 / 1000) / 40 is 1700 / 40
        is("13 next", x.flow(1), -300 + 42);
        // 258 * 258 * 10 / 1000 is 665; 1465 / 40 is 36
        is("13 next", x.flow(2), -258 + 36);
        x.sea(0, 0, 0);
        x.sea(1, 0, 500);
        x.terms(0, 50);
        x.terms(2, 1);
        x.terms(1, 0);
        is("13 least", x.flow(1), -2000);
        x.sea(1, 0, -500);
        is("13 most", x.flow(1), 2000);
        is("13 minute", x.flow(1440), NOTHING);
        is("13 minute", x.flow(-1), NOTHING);
        // by no law's telling the gain has no bounds of its own
        x.sea(1, 0, -30);
        x.terms(4, -1000);
        is("13 more than 500", x.flow(1), 500);
        Due.rule(x, "gains 1000 - minute * 100");
        is("13 told, at most 500", x.flow(1), -500);
        is("13 at most 2000", x.flow(11), 2000);
        is("13 told, by its minute", x.flow(12), 1900);
    }

    // ---- promises 14, 15

    private static void kindsAndCells() {
        SlackRace x = new SlackRace();
        is("14 was", x.kind(49, 5), 1);
        is("14 was", x.kind(49, 0), 5);
        refused(x, "14 cell", x.kind(50, 1), -1);
        refused(x, "14 cell", x.kind(-1, 1), -1);
        refused(x, "14 kind", x.kind(0, 6), -1);
        refused(x, "14 kind", x.kind(0, -1), -1);
        is("14 as it was", x.kind(49, 1), 0);
        Due.rule(x, "gains 0;gains 7 if minute < 50;gains 3 if minute - 1000 = 438");
        x.terms(4, -103);
        for (int kind = 0; kind < 6; kind++) {
            x.kind(kind, kind);
        }
        // 0: -103, 20: 37, 50 and on: 247
        int[] at0 = {0, -103, -18, -25, -128, -103};
        int[] at40 = {0, 177, -123, 44, 221, 177};
        for (int kind = 0; kind < 6; kind++) {
            is("15 flow of kind " + kind, x.cell(kind, 0, 0), at0[kind]);
            is("15 flow of kind " + kind, x.cell(kind, 40, 0), at40[kind]);
            is("15 kind", x.cell(kind, 40, 2), kind);
        }
        is("13 at the end", x.flow(1439), x.flow(1438) + 3);
        is("15 eddy at the end", x.cell(2, 1430, 0), -x.flow(1439) / 2);
        x.terms(5, 0);
        is("15 eddy without lead", x.cell(2, 0, 0), 51);
        is("15 cell", x.cell(50, 0, 0), NOTHING);
        is("15 cell", x.cell(-1, 0, 0), NOTHING);
        is("15 minute", x.cell(0, 1440, 2), NOTHING);
        is("15 minute", x.cell(0, -1, 0), NOTHING);
        is("15 what", x.cell(0, 0, 3), NOTHING);
        is("15 what", x.cell(0, 0, -1), NOTHING);
    }

    private static void whites() {
        SlackRace x = new SlackRace();
        Due.rule(x, "gains 0");
        for (int kind = 0; kind < 6; kind++) {
            x.kind(kind, kind);
        }
        x.terms(4, 1000);
        x.terms(9, -13);
        // flows 0, 1000, -500, 250, 1250, 1000; 250 * 13 / 1000 is 3, 1250 * 13 / 1000 is 16
        int[] against = {0, 13, 0, 1, 16, 26};
        for (int kind = 0; kind < 6; kind++) {
            is("15 white of kind " + kind, x.cell(kind, 0, 1), against[kind]);
        }
        x.terms(9, 15);
        int[] with = {0, 0, 3, 0, 0, 0};
        for (int kind = 0; kind < 6; kind++) {
            is("15 white of kind " + kind, x.cell(kind, 0, 1), with[kind]);
        }
        x.terms(9, -40);
        is("15 white below 99", x.cell(5, 0, 1), 80);
        Due.rule(x, "gains 500;white flow * kind / 100 + minute if not kind = 4;white 200 if kind=0");
        is("15 white told at most 99", x.cell(5, 0, 1), 50);
        is("15 white told at most 99", x.cell(5, 60, 1), 99);
        is("15 white told at least 0", x.cell(2, 0, 1), 0);
        is("15 white told of the flow there", x.cell(3, 0, 1), 7);
        is("15 white told of rock", x.cell(0, 0, 1), 0);
        is("15 white told not: as without", x.cell(4, 0, 1), 50);
        is("15 white at most 99", x.cell(4, 2, 1), 99);
    }

    // ---- promises 16, 17

    private static void slacks() {
        SlackRace x = new SlackRace();
        Due.rule(x, "gains 0;gains 10 if minute < 100;"
                + "gains 0-10 if minute > 699 and minute < 800");
        x.terms(4, -100);
        x.moon(0, 0, 0, 100);
        x.moon(0, 0, 1, 1000);
        x.sea(1, 0, 4);
        // -100 to 0 at 10, 50 at 15, 900 at 100 .. 700, 50 at 785, 0 at 790, -100 at 800
        is("16 how many", x.slack(NONE, 0), 2);
        is("16 first", x.slack(0, 0), 5);
        is("16 long", x.slack(0, 1), 11);
        is("16 fall", x.slack(0, 2), 3 - 4);
        is("16 since the greatest", x.slack(0, 3), 0);
        is("16 first", x.slack(1, 0), 785);
        is("16 long", x.slack(1, 1), 11);
        // 785: x is 3140, - 1140 * 860 / 1000 is -980
        is("16 fall", x.slack(1, 2), -98 - 4);
        is("16 since the greatest", x.slack(1, 3), 785 - 250);
        is("16 beyond", x.slack(2, 0), NOTHING);
        is("16 below", x.slack(-2, 0), NOTHING);
        is("16 what", x.slack(0, 4), NOTHING);
        is("16 what", x.slack(0, -1), NOTHING);
        is("16 how many, by each what", x.slack(NONE, 3), 2);
        is("16 how many, no such what", x.slack(NONE, 4), NOTHING);
        is("16 how many, no such what", x.slack(NONE, -1), NOTHING);
        is("16 how many, no such what", x.slack(NONE, Integer.MAX_VALUE), NOTHING);
        is("16 how many, no such what", x.slack(NONE, Integer.MIN_VALUE), NOTHING);
        x.terms(3, 0);
        is("16 one minute", x.slack(1, 1), 1);
        is("16 one minute", x.slack(1, 0), 790);
        // 40 at MINUTE 0 and more than 720 behind: the greatest of 70 .. 790 is the later of alike
        x.moon(0, 0, 0, 0);
        is("16 alike: the latest", x.slack(1, 3), 0);
        x.moon(0, 0, 0, 100);
        x.moon(0, 0, 1, 60);
        // highs at 15, 75, .. 735; next is 795
        is("16 the latest high", x.slack(1, 3), 790 - 735);
        x.moon(0, 0, 1, 2000);
        x.moon(0, 0, 2, 500);
        is("16 720 ahead", x.slack(1, 3), 720);

        SlackRace y = new SlackRace();
        y.terms(4, 51);
        y.terms(1, 0);
        is("16 none", y.slack(NONE, 0), 0);
        is("16 none", y.slack(0, 0), NOTHING);
        y.terms(4, 50);
        is("16 all day", y.slack(0, 1), 1440);
    }

    private static void lates() {
        SlackRace x = new SlackRace();
        Due.rule(x, "gains 10 - wind / 8 - [glass - 1000 - 13] / 10");
        x.terms(4, -100);
        is("17 alike", x.late(0), 0);
        x.terms(9, 40);
        // 5 a minute: -50 at 10, not at 5
        is("17 later", x.late(0), 5);
        x.terms(9, -40);
        // 15 a minute: -40 at 4
        is("17 sooner", x.late(0), -1);
        x.terms(9, 0);
        x.terms(10, 1043);
        // 7 a minute: -44 at 8
        is("17 glass", x.late(0), 3);
        is("17 beyond", x.late(1), NOTHING);
        is("17 below", x.late(-1), NOTHING);
        x.terms(9, 40);
        x.terms(10, 1050);
        // 10 - 5 - 3: 2 a minute, up to 2000 and never back
        is("17 later", x.late(0), 20);
        Due.rule(x, "gains 0;gains 1 if wind > 0");
        // -100 for ever without the wind
        is("17 not there without", x.late(0), NOTHING);
        x.terms(4, 0);
        x.terms(3, 500);
        is("17 both at once", x.late(0), 0);
        Due.rule(x, "gains 0;gains 500 if wind > 0 and minute < 3;"
                + "gains 0-500 if wind > 0 and minute > 5");
        is("17 more than without", x.slack(NONE, 0), 2);
        is("17 not there without", x.late(1), NOTHING);
    }

    // ---- promises 18 to 22

    private static void boats() {
        SlackRace x = new SlackRace();
        refused(x, "18 pace", x.boat(0, 0), -1);
        refused(x, "18 pace", x.boat(1501, 0), -1);
        refused(x, "18 bears", x.boat(1, -1), -1);
        refused(x, "18 bears", x.boat(1, 100), -1);
        is("18 first", x.boat(1, 0), 0);
        is("18 next", x.boat(1500, 99), 1);
        for (int i = 2; i < 6; i++) {
            is("18 number", x.boat(100, 10), i);
        }
        refused(x, "18 full", x.boat(100, 10), -5);
        refused(x, "18 full, but first", x.boat(0, 10), -1);
        is("18 boats", x.count(0), 6);
    }

    private static void soonestWays() {
        SlackRace x = stillSea();
        x.boat(100, 0);
        x.boat(99, 0);
        is("19 there", x.soonest(0, 5, 7, 7), 5);
        is("19 columns and rows", x.soonest(0, 0, 0, 49), 13);
        is("19 back", x.soonest(0, 0, 49, 0), 13);
        is("19 need: rows alone", x.soonest(1, 0, 0, 1), NONE);
        is("19 rows", x.soonest(1, 0, 0, 40), 4);
        is("19 no way round the end of a row", x.soonest(0, 0, 9, 10), 10);
        is("19 too late", x.soonest(0, 131, 0, 49), NONE);
        is("19 just in time", x.soonest(0, 130, 0, 49), 143);
        is("19 last step", x.soonest(0, 143, 3, 3), 143);
        x.kind(1, 0);
        is("19 round a rock", x.soonest(0, 0, 0, 2), 4);
        is("19 onto a rock", x.soonest(0, 0, 0, 1), NONE);
        is("19 from a rock", x.soonest(0, 0, 1, 0), NONE);
        is("19 on a rock", x.soonest(0, 0, 1, 1), NONE);
        is("19 boat", x.soonest(2, 0, 0, 0), NONE);
        is("19 boat", x.soonest(-1, 0, 0, 0), NONE);
        is("19 step", x.soonest(0, 144, 0, 0), NONE);
        is("19 step", x.soonest(0, -1, 0, 0), NONE);
        is("19 from", x.soonest(0, 0, 50, 0), NONE);
        is("19 to", x.soonest(0, 0, 0, 50), NONE);
        is("19 to", x.soonest(0, 0, 0, -1), NONE);

        // 200 up to MINUTE 100, then 0: one must wait, but can't where it runs
        SlackRace y = new SlackRace();
        Due.rule(y, "gains 0;gains 0-200 if minute = 100;white 9 if kind = 3 and minute < 30");
        y.terms(4, 200);
        y.boat(150, 8);
        for (int cell = 10; cell < 50; cell++) {
            y.kind(cell, 0);
        }
        is("19 with the flow", y.soonest(0, 0, 2, 9), 7);
        is("19 against it", y.soonest(0, 0, 5, 4), NONE);
        y.kind(5, 3);
        y.kind(4, 3);
        y.kind(3, 3);
        is("19 white there", y.soonest(0, 0, 5, 5), NONE);
        is("19 white is over", y.soonest(0, 3, 5, 4), 4);
        is("19 white ahead", y.soonest(0, 1, 2, 4), NONE);
        is("19 not beyond", y.soonest(0, 3, 5, 2), 5 + 1);
        // 2 can be left against the flow from STEP 11 on
        is("19 out of it, when it is over", y.soonest(0, 3, 3, 1), 12);
        is("19 waits where it can, for the end of it", y.soonest(0, 11, 9, 1), 19);

        SlackRace z = stillSea();
        z.terms(4, -151);
        z.boat(150, 8);
        is("19 towards END 0 it runs off, too", z.soonest(0, 0, 25, 35), NONE);
        is("19 and can't be stemmed", z.soonest(0, 0, 25, 26), NONE);
        is("19 but one goes with it", z.soonest(0, 0, 25, 20), 5);
        z.terms(4, -150);
        is("19 just", z.soonest(0, 0, 25, 35), 1);
    }

    private static void firstWays() {
        SlackRace x = stillSea();
        x.boat(100, 0);
        // lower cells ahead: along the row first, then down
        int[] cells = {3, 4, 5, 15, 25};
        for (int i = 0; i < cells.length; i++) {
            is("20 cell " + i, x.way(0, 10, 3, 25, 10 + i), cells[i]);
        }
        int[] up = {25, 15, 5, 4, 3};
        for (int i = 0; i < up.length; i++) {
            is("20 cell " + i, x.way(0, 10, 25, 3, 10 + i), up[i]);
        }
        is("20 ahead", x.way(0, 10, 3, 25, 9), NONE);
        is("20 behind", x.way(0, 10, 3, 25, 15), NONE);
        is("20 there", x.way(0, 10, 3, 3, 10), 3);
        is("20 there", x.way(0, 10, 3, 3, 11), NONE);
        is("20 at", x.way(0, 10, 3, 25, -1), NONE);
        is("20 at", x.way(0, 10, 3, 25, 144), NONE);
        is("20 boat", x.way(1, 10, 3, 25, 10), NONE);
        is("20 no way", x.way(0, 143, 3, 25, 143), NONE);
        x.kind(4, 0);
        // 13 is higher than nothing else: 3, 13, 14 then 15 or 24
        int[] round = {3, 13, 14, 15, 25};
        for (int i = 0; i < round.length; i++) {
            is("20 round " + i, x.way(0, 10, 3, 25, 10 + i), round[i]);
        }

        // it must wait a step: rather in a lower cell
        SlackRace y = new SlackRace();
        Due.rule(y, "gains 0;white 5 if kind = 3 and minute < 31");
        y.boat(100, 4);
        y.kind(22, 3);
        int[] waits = {20, 10, 11, 12, 22};
        is("20 soonest", y.soonest(0, 0, 20, 22), 4);
        for (int i = 0; i < waits.length; i++) {
            is("20 waits " + i, y.way(0, 0, 20, 22, i), waits[i]);
        }
    }

    private static void calmestWays() {
        SlackRace x = new SlackRace();
        Due.rule(x, "gains 0;white kind;white 0 if kind = 5 and minute > 199");
        x.boat(100, 9);
        x.boat(100, 3);
        // a row of MAIN: one each; a wall of BOIL between columns 4 and 6
        is("21 there", x.calmest(0, 0, 0, 0), 1);
        is("21 along", x.calmest(0, 0, 0, 3), 4);
        for (int line = 0; line < 5; line++) {
            x.kind(line * 10 + 5, 4);
        }
        is("21 through", x.calmest(0, 0, 4, 6), 1 + 4 + 1);
        is("21 can't bear it", x.calmest(1, 0, 4, 6), NONE);
        x.kind(45, 2);
        is("21 round is dearer", x.calmest(0, 0, 4, 6), 6);
        is("21 but the other can", x.calmest(1, 0, 4, 6), 5 + 2 + 5);
        x.kind(5, 5);
        is("21 the fifth is dearer by day", x.calmest(0, 0, 4, 6), 7);
        // later it is calm: 4 at STEP 19, 5 at 20, 6 at 21
        is("21 later", x.calmest(0, 19, 4, 6), 2);
        is("21 waiting costs", x.calmest(0, 16, 4, 6), 5);
        is("21 from a rock", x.kind(4, 0) + x.calmest(0, 0, 4, 6), 1 + NONE);
        is("21 no time", x.calmest(0, 143, 2, 3), NONE);
        is("21 boat", x.calmest(2, 0, 0, 0), NONE);
        is("21 step", x.calmest(0, 144, 0, 0), NONE);
        is("21 from", x.calmest(0, 0, -1, 0), NONE);
        is("21 to", x.calmest(0, 0, 0, 50), NONE);
    }

    private static void latestStarts() {
        SlackRace x = stillSea();
        x.boat(100, 0);
        is("22 just", x.latest(0, 0, 49, 13), 0);
        is("22 not", x.latest(0, 0, 49, 12), NONE);
        is("22 at the end", x.latest(0, 0, 49, 143), 130);
        is("22 there", x.latest(0, 5, 5, 77), 77);
        is("22 boat", x.latest(1, 5, 5, 77), NONE);
        is("22 from", x.latest(0, 50, 5, 77), NONE);
        is("22 to", x.latest(0, 5, -1, 77), NONE);
        is("22 by", x.latest(0, 5, 5, 144), NONE);
        is("22 by", x.latest(0, 5, 5, -1), NONE);

        // from MINUTE 100 on it runs 200 towards END 1: no way back then, and no staying
        SlackRace y = new SlackRace();
        Due.rule(y, "gains 0;gains 200 if minute = 99;white 5 if kind = 5 and minute > 50");
        y.boat(150, 4);
        is("22 back by then", y.latest(0, 5, 3, 143), 8);
        is("22 on, to the last", y.latest(0, 3, 5, 143), 141);
        y.kind(3, 5);
        is("22 earlier", y.latest(0, 5, 3, 143), 3);
        is("22 earlier", y.latest(0, 3, 3, 143), 5);
        y.kind(5, 0);
        is("22 rock", y.latest(0, 5, 3, 143), NONE);
        is("22 rock", y.latest(0, 3, 5, 143), NONE);
    }

    // ---- promises 23 to 26

    private static void plans() {
        SlackRace x = stillSea();
        x.boat(100, 0);
        refused(x, "23 below", x.move(-1), -1);
        refused(x, "23 above", x.move(5), -1);
        for (int n = 1; n <= 40; n++) {
            is("23 move", x.move(n % 5), n);
        }
        refused(x, "23 full", x.move(0), -5);
        refused(x, "23 full, but first", x.move(5), -1);
        is("24 had", x.tear(), 40);
        is("24 empty", x.tear(), 0);
        is("24 no refusal changed", x.status(), -1);
        int[] moves = {1, 3, 2, 4, 0, 4};
        for (int move : moves) {
            x.move(move);
        }
        // 0, 1, 11, 10, 0, 0, beyond
        is("25 beyond the rows", x.done(0, 0, 0, 0), 5);
        is("25 one lower", x.done(0, 0, 10, 0), 6);
        is("25 beyond the columns", x.done(0, 0, 9, 0), 0);
        is("25 at the last row", x.done(0, 0, 40, 0), 1);
        is("25 last step", x.done(0, 143, 10, 0), 0);
        is("25 near the end", x.done(0, 140, 10, 0), 3);
        x.kind(11, 0);
        is("25 rock ahead", x.done(0, 0, 0, 0), 1);
        is("25 rock at first", x.done(0, 0, 11, 0), NONE);
        is("25 boat", x.done(1, 0, 0, 0), NONE);
        is("25 step", x.done(0, 144, 0, 0), NONE);
        is("25 step", x.done(0, -1, 0, 0), NONE);
        is("25 from", x.done(0, 0, 50, 0), NONE);
        is("25 slip", x.done(0, 0, 0, 61), NONE);
        is("25 slip", x.done(0, 0, 0, -61), NONE);
        is("25 slip", x.done(0, 0, 0, 60), 1);
        x.tear();
        x.move(2);
        is("25 the column ahead of the first", x.done(0, 0, 20, 0), 0);
    }

    private static void margins() {
        SlackRace x = new SlackRace();
        // white from 131 on, and up to 29
        Due.rule(x, "gains 0;white 9 if minute > 130 or minute < 30");
        x.boat(100, 8);
        x.boat(99, 8);
        is("26 no plan", x.margin(0, 8, 0), 50);
        is("26 no plan, white", x.margin(0, 14, 0), NONE);
        x.move(1);
        x.move(1);
        // from 60 to 80: 30 sooner, 50 later
        is("26 sooner", x.margin(0, 6, 0), 30);
        is("26 later", x.margin(0, 9, 0), 20);
        is("26 none", x.margin(0, 11, 0), 0);
        is("26 not at all", x.margin(0, 12, 0), NONE);
        is("25 slip", x.done(0, 9, 0, 20), 2);
        is("25 slip", x.done(0, 9, 0, 21), 1);
        is("25 slip", x.done(0, 9, 0, 30), 1);
        is("25 slip", x.done(0, 9, 0, 31), 0);
        is("25 slip", x.done(0, 9, 0, 40), 0);
        is("25 slip", x.done(0, 9, 0, 41), NONE);
        is("25 slip at first", x.done(0, 9, 0, -60), 2);
        is("25 slip at first", x.done(0, 8, 0, -51), NONE);
        is("26 another", x.margin(1, 6, 0), NONE);
        is("26 boat", x.margin(2, 6, 0), NONE);
        is("26 step", x.margin(0, 144, 0), NONE);
        is("26 from", x.margin(0, 6, -1), NONE);

        // a slip goes no further than the day
        SlackRace y = stillSea();
        y.boat(100, 0);
        y.move(1);
        is("26 at the first", y.margin(0, 0, 0), 60);
        is("26 at the last", y.margin(0, 142, 0), 60);
        Due.rule(y, "gains 0;white 9 if minute = 0 or minute - 1000 = 439");
        is("25 of 0", y.done(0, 3, 0, -40), NONE);
        is("25 of 0", y.done(0, 0, 0, 1), 1);
        is("25 of 1439", y.done(0, 142, 0, 9), 0);
        is("25 of 1439", y.done(0, 142, 0, 19), NONE);
        is("25 of 1439", y.done(0, 142, 0, 60), NONE);
        is("25 short of it", y.done(0, 142, 0, 8), 1);
    }

    // ---- promises 27 to 29

    private static void ships() {
        SlackRace x = new SlackRace();
        refused(x, "27 ready", x.ship(-1, 1, 0), -1);
        refused(x, "27 ready", x.ship(1440, 1, 0), -1);
        refused(x, "27 pass", x.ship(0, 0, 0), -1);
        refused(x, "27 pass", x.ship(0, 121, 0), -1);
        refused(x, "27 limit", x.ship(0, 1, -1), -1);
        refused(x, "27 limit", x.ship(0, 1, 2001), -1);
        is("27 first", x.ship(0, 1, 0), 0);
        is("27 next", x.ship(1439, 120, 2000), 1);
        for (int i = 2; i < 6; i++) {
            is("27 number", x.ship(0, 1, 0), i);
        }
        refused(x, "27 full", x.ship(0, 1, 0), -5);
        refused(x, "27 full, but first", x.ship(0, 0, 0), -1);
        is("28 the second is never through", x.order(NONE), NONE);
    }

    private static void bestOrders() {
        SlackRace x = stillSea();
        is("28 none wait", x.order(NONE), 0);
        is("28 nobody", x.order(0), NONE);
        is("29 nobody", x.begins(0), NONE);
        x.ship(100, 50, 0);
        x.ship(90, 20, 0);
        x.ship(100, 5, 0);
        // 1 at 90, 2 at 110, 0 at 115: 0 + 10 + 15
        is("28 wait", x.order(NONE), 25);
        is("28 first", x.order(0), 1);
        is("28 second", x.order(1), 2);
        is("28 third", x.order(2), 0);
        is("29 begins", x.begins(0), 115);
        is("29 begins", x.begins(1), 90);
        is("29 begins", x.begins(2), 110);
        is("28 beyond", x.order(3), NONE);
        is("28 below", x.order(-2), NONE);
        is("29 beyond", x.begins(3), NONE);
        is("29 below", x.begins(-1), NONE);

        SlackRace alike = stillSea();
        alike.ship(0, 10, 0);
        alike.ship(0, 10, 0);
        alike.ship(0, 10, 0);
        is("28 alike: the first row", alike.order(0), 0);
        is("28 alike: the first row", alike.order(1), 1);
        is("28 alike: the first row", alike.order(2), 2);
        is("28 alike: wait", alike.order(NONE), 30);

        // a MINUTE of 300 at 50
        SlackRace y = new SlackRace();
        Due.rule(y, "gains 0;gains 300 if minute = 49;gains 0-300 if minute = 50");
        y.ship(31, 20, 299);
        is("28 not through it", y.begins(0), 51);
        y.ship(30, 20, 299);
        is("29 just ahead of it", y.begins(1), 30);
        is("28 wait", y.order(NONE), 20);
        y.ship(45, 20, 300);
        // 1 at 30 to 50, 2 at 50 to 70, 0 at 70; or 0 at 51, 2 at 71
        is("29 in it", y.begins(2), 50);
        is("28 wait", y.order(NONE), 5 + 39);

        SlackRace z = stillSea();
        z.ship(1320, 120, 0);
        is("28 all of the day", z.order(NONE), 0);
        z.ship(1319, 1, 0);
        is("28 the one ahead", z.order(0), 1);
        z.ship(1320, 1, 0);
        is("28 no order can be", z.order(NONE), NONE);
        is("28 no order can be", z.order(0), NONE);
        is("29 no order can be", z.begins(0), NONE);
    }

    // ---- promises 30, 31

    private static void turbines() {
        SlackRace x = new SlackRace();
        Due.rule(x, "gains 0");
        x.terms(4, -150);
        is("30 none", x.taken(0), 0);
        // 3.375 a MINUTE
        is("30 cut each minute", x.taken(1), 3 * 1440);
        is("30 two", x.taken(2), 6 * 1440);
        is("30 four", x.taken(4), 13 * 1440);
        is("30 below", x.taken(-1), NONE);
        is("30 beyond", x.taken(21), NONE);
        is("31 best", x.most(0, 0), 20);
        is("31 flow", x.most(1, 1439), -150);
        is("31 minute", x.most(1, 1440), NOTHING);
        is("31 minute", x.most(1, -1), NOTHING);
        is("31 what", x.most(2, 0), NOTHING);
        is("31 what", x.most(-1, 0), NOTHING);
        x.terms(4, 30);
        // 0.027 each: 20 take nothing
        is("31 alike: the lowest", x.most(0, 0), 0);
        is("30 all together", x.taken(20), 0);
        Due.rule(x, "gains 0;gains 5 if minute<turbines");
        x.terms(4, 100);
        is("30 by the flow of their own", x.taken(1), 1 + 1439);
        is("31 flow without", x.flow(9), 100);
        is("31 flow by the best", x.most(1, 1), 105);

        // (fall 100 * 8 - 200 * 200 * (10 + 2 n) / 1000) / 40
        SlackRace y = new SlackRace();
        y.sea(0, 0, 100);
        y.terms(4, 200);
        is("13 without", y.flow(1), 200 + 10);
        is("31 best", y.most(0, 0) >= 1 ? 1 : 0, 1);
        int best = y.most(0, 0);
        is("31 slowed", y.most(1, 1), 200 + (800 - 40000 * (10 + 2 * best) / 1000) / 40);
        y.terms(7, 20);
        best = y.most(0, 0);
        is("31 slowed by DRAG", y.most(1, 1), 200 + (800 - 40000 * (10 + 20 * best) / 1000) / 40);
        is("31 some are best", best > 0 ? 1 : 0, 1);
        long greatest = -1;
        int lowest = -1;
        for (int n = 0; n <= 20; n++) {
            if (y.taken(n) > greatest) {
                greatest = y.taken(n);
                lowest = n;
            }
        }
        is("31 the most", best, lowest);
    }

    // ---- promises 32 to 34

    private static void floats() {
        SlackRace x = new SlackRace();
        refused(x, "32 minute", x.cast(-1, 0), -1);
        refused(x, "32 minute", x.cast(1440, 0), -1);
        refused(x, "32 level", x.cast(0, 10000), -1);
        refused(x, "32 level", x.cast(0, -10000), -1);
        is("32 first", x.cast(0, -9999), 0);
        is("32 next", x.cast(1439, 9999), 1);
        for (int i = 2; i < 12; i++) {
            is("32 number", x.cast(i, 0), i);
        }
        refused(x, "32 full", x.cast(0, 0), -5);
        refused(x, "32 full, but first", x.cast(0, 10000), -1);
        is("32 floats", x.count(4), 12);
    }

    private static void agreements() {
        SlackRace x = new SlackRace();
        is("33 without floats all", x.agree(0, 0), 51 * 72);
        is("33 least height", x.agree(0, 1), 0);
        is("33 greatest height", x.agree(0, 2), 500);
        is("33 least phase", x.agree(0, 3), 0);
        is("33 greatest phase", x.agree(0, 4), 710);
        is("33 first", x.agree(0, 5), 0);
        x.moon(0, 1, 1, 61);
        is("33 below the period", x.agree(1, 4), 60);
        is("33 below the period", x.agree(1, 0), 51 * 7);
        x.moon(0, 1, 1, 60);
        is("33 below the period", x.agree(1, 4), 50);
        is("33 moon", x.agree(4, 0), NONE);
        is("33 moon", x.agree(-1, 0), NONE);
        is("33 what", x.agree(0, 6), NONE);
        is("33 what", x.agree(0, -1), NONE);

        // a moon of 200 with phase 100 of 1000, another beside it, a mean, glass and wind
        x.moon(0, 0, 0, 200);
        x.moon(0, 0, 1, 1000);
        x.moon(0, 0, 2, 100);
        x.moon(0, 1, 0, 40);
        x.moon(0, 1, 1, 500);
        x.sea(0, 0, 25);
        x.sea(0, 1, 2);
        x.terms(10, 1000);
        x.terms(8, 0);
        int[] minutes = {0, 77, 150, 333, 650, 800, 1111};
        for (int minute : minutes) {
            x.cast(minute, x.level(0, minute));
        }
        // what the moon itself is does not matter
        x.moon(0, 0, 0, 0);
        x.moon(0, 0, 2, 777);
        is("33 one", x.agree(0, 0), 1);
        is("33 its height", x.agree(0, 1), 200);
        is("33 its height", x.agree(0, 2), 200);
        is("33 its phase", x.agree(0, 3), 100);
        is("33 its phase", x.agree(0, 4), 100);
        is("33 its phase", x.agree(0, 5), 100);
        x.sea(0, 0, 26);
        is("33 none", x.agree(0, 0), 0);
        for (int what = 1; what <= 5; what++) {
            is("33 none", x.agree(0, what), NONE);
        }
        x.terms(8, 1);
        is("33 off by one", x.agree(0, 0) >= 1 ? 1 : 0, 1);

        // 400 .. 500 at 0: of 500 from PHASE 140 to 360, of 400 at 250 alone
        SlackRace y = new SlackRace();
        y.moon(0, 0, 1, 1000);
        y.terms(8, 50);
        y.cast(0, 450);
        is("33 least height", y.agree(0, 1), 400);
        is("33 greatest height", y.agree(0, 2), 500);
        is("33 least phase", y.agree(0, 3), 140);
        is("33 greatest phase", y.agree(0, 4), 360);
        is("33 first by height", y.agree(0, 5), 250);
        y.cast(0, 350);
        // 400 just: 460 times 870 / 1000 at PHASE 160 and 340 is 400, too
        is("33 greatest height", y.agree(0, 2), 460);
        is("33 least phase", y.agree(0, 3), 160);
        is("33 greatest phase", y.agree(0, 4), 340);
        is("33 how many", y.agree(0, 0), 3);
        is("33 first by height", y.agree(0, 5), 250);
    }

    private static void tellingFloats() {
        SlackRace x = new SlackRace();
        is("34 no floats", x.tells(0), NONE);
        x.moon(0, 0, 1, 1000);
        x.terms(8, 0);
        x.cast(250, 100);
        is("34 alone", x.tells(0), 0);
        x.cast(250, 100);
        is("34 alike: the lowest", x.tells(0), 0);
        x.cast(250, 999);
        is("34 that which can't be", x.tells(0), 2);
        is("34 none agree with it", x.agree(0, 0), 0);
        x.cast(250, 999);
        is("34 two that can't be: no one tells more", x.tells(0), 0);
        is("34 moon", x.tells(4), NONE);
        is("34 moon", x.tells(-1), NONE);

        // with 0 at 500 and 100 at 250 one tells the phase: without the second more agree
        SlackRace y = new SlackRace();
        y.moon(0, 0, 1, 1000);
        y.cast(500, 0);
        y.cast(250, 100);
        is("34 more without the second", y.tells(0), 1);
    }

    // ---- promises 35, 36

    private static void rules() {
        SlackRace x = new SlackRace();
        is("35 no high", x.right(0, 10), 0);
        is("35 a", x.right(-1, 10), NONE);
        is("35 a", x.right(1440, 10), NONE);
        is("35 b", x.right(0, -1), NONE);
        is("35 b", x.right(0, 1440), NONE);
        is("36 no high", x.mark(0), NONE);
        is("36 width", x.mark(-1), NONE);
        is("36 width", x.mark(721), NONE);

        // highs at 250, 750, 1250; slack from 260 to 299, no other
        x.moon(0, 0, 0, 100);
        x.moon(0, 0, 1, 500);
        x.moon(0, 0, 2, 375);
        Due.rule(x, "gains 0;gains 0-200 if minute = 259;gains 200 if minute=299");
        x.terms(4, 200);
        is("35 highs", x.level(0, 250), 100);
        is("35 in", x.flow(260), 0);
        is("35 out", x.flow(300), 200);
        int all = 1440 - 250;
        is("35 never", x.right(3, 2), all - 40);
        is("35 right once, wrong twice", x.right(10, 49), all - 80);
        is("35 one minute", x.right(10, 10), all - 40 + 1 - 2);
        is("35 the high itself", x.right(0, 0), all - 40 - 3);
        is("35 always", x.right(0, 1439), 40);
        is("35 beyond all", x.right(500, 1439), all - 40);
        is("35 to the last behind the last high", x.right(189, 189), all - 43);
        is("35 beyond it", x.right(190, 190), all - 42);

        // a plain top: its first MINUTE is the high
        SlackRace y = new SlackRace();
        y.moon(0, 0, 0, 1);
        y.moon(0, 0, 1, 2000);
        y.moon(0, 0, 2, 0);
        Due.rule(y, "gains 0");
        // 1 only where WAVE is 1000: x is 2 u, 1000 at u 500 and, cut, from 998 * 1002 no more
        is("35 plain", y.right(0, 0), y.level(0, 500) == 1 && y.level(0, 501) == 0 ? 1 : 0);
        y.moon(0, 0, 0, 2);
        // 1 from 147 on (x is 294), 2 at 500: both are more than those ahead of them
        is("35 levels", y.level(0, 147) - y.level(0, 146), 1);
        is("35 from the first of a plain top", y.right(0, 1439), 1440 - 147);
        is("35 the two highs", y.right(0, 0), 2);

        SlackRace z = new SlackRace();
        Due.rule(z, "gains 0");
        z.moon(0, 0, 0, 500);
        z.moon(0, 0, 1, 120);
        z.moon(0, 0, 2, 90);
        is("35 levels", z.level(0, 60), 500);
        is("35 levels", z.level(0, 0), -500);
        is("35 highs every 120, 60 to 1260", z.right(0, 0), 11);
        z.moon(0, 0, 1, 60);
        z.moon(0, 0, 2, 15);
        // 0, 60, 120 .. alike: none is more than each of the 60 ahead
        is("35 alike tops", z.right(0, 1439), 0);
    }

    private static void marks() {
        SlackRace x = new SlackRace();
        x.moon(0, 0, 0, 100);
        x.moon(0, 0, 1, 1000);
        x.moon(0, 0, 2, 50);
        // highs at 200, 1200; slack from 410 to 449
        Due.rule(x, "gains 0;gains 0-200 if minute = 409;gains 200 if minute=449");
        x.terms(4, 200);
        // behind: slack once and not once 210 .. 239, slack alone 240 .. 249, not at all others
        is("36 just", x.mark(39), 210);
        is("36 wide", x.mark(49), 210);
        is("36 narrow", x.mark(9), 240);
        is("36 narrower: the lowest", x.mark(0), 240);
        is("35 as often", x.right(240, 249) - x.right(1, 0), 10);

        SlackRace y = stillSea();
        y.moon(0, 0, 0, 100);
        is("36 all slack", y.mark(720), 0);
        is("36 all slack", y.mark(0), 0);
        y.terms(4, 100);
        // never slack: a rule is least wrong where it is asked least
        int best = -1;
        int most = -1;
        SlackRace z = y;
        for (int a = 0; a < 720; a++) {
            if (a % 400 == 0) {
                // an object answers 512 calls, not more
                z = stillSea();
                z.moon(0, 0, 0, 100);
                z.terms(4, 100);
            }
            int right = z.right(a, a + 100);
            if (right > most) {
                most = right;
                best = a;
            }
        }
        is("36 as right() says", y.mark(100), best);
    }

    // ---- promise 37

    private static void lostThings() {
        SlackRace x = stillSea();
        x.terms(4, 305);
        is("37 at first", x.lost(25, 0, 0, 25), 1000000);
        is("37 at first", x.lost(25, 0, 0, 26), 0);
        is("37 on", x.lost(25, 0, 1, 26), 300000);
        is("37 next row", x.lost(25, 0, 1, 35), 350000);
        is("37 row ahead", x.lost(25, 0, 1, 15), 350000);
        is("37 no more here", x.lost(25, 0, 1, 25), 0);
        // there and back by rows: 2 times .35 .35
        is("37 two steps", x.lost(25, 0, 2, 25), 245000);
        is("37 two steps", x.lost(25, 0, 2, 36), 210000);
        is("37 out", x.lost(29, 0, 1, 50), 300000);
        is("37 out, and stays", x.lost(29, 0, 2, 50), 300000 + 210000);
        is("37 ashore", x.lost(5, 0, 1, 51), 350000);
        // .35, then of .3 at 6 .35 again, of .35 at 15 nothing
        is("37 ashore, and stays", x.lost(5, 0, 2, 51), 350000 + 105000);
        x.kind(26, 0);
        is("37 onto rock", x.lost(25, 0, 1, 51), 300000);
        is("37 onto rock", x.lost(25, 0, 1, 26), 0);
        is("37 rock at first", x.lost(26, 0, 1, 51), NONE);
        x.kind(25, 2);
        // -152: 15 of a hundred, the other way
        is("37 eddy", x.lost(25, 0, 1, 24), 150000);
        is("37 eddy", x.lost(25, 0, 1, 35), 425000);
        x.terms(4, -1000);
        x.kind(20, 4);
        is("37 at most a hundred", x.lost(20, 0, 1, 50), 1000000);
        is("37 at most a hundred", x.lost(20, 0, 1, 30), 0);
        x.terms(4, 9);
        is("37 less than one of a hundred", x.lost(33, 0, 1, 34), 0);
        is("37 by halves", x.lost(33, 0, 1, 43), 500000);
        x.terms(4, 10);
        // .01 to the third is a millionth; to the fourth it is cut
        is("37 millionths", x.lost(30, 0, 3, 33), 1);
        is("37 cut", x.lost(30, 0, 4, 34), 0);
        is("37 last steps", x.lost(30, 137, 6, 36), 0);
        is("37 beyond", x.lost(30, 138, 6, 36), NONE);
        is("37 at the last", x.lost(30, 143, 0, 30), 1000000);
        is("37 cell", x.lost(50, 0, 1, 0), NONE);
        is("37 cell", x.lost(-1, 0, 1, 0), NONE);
        is("37 step", x.lost(0, -1, 1, 0), NONE);
        is("37 step", x.lost(0, 144, 0, 0), NONE);
        is("37 n", x.lost(0, 0, -1, 0), NONE);
        is("37 n", x.lost(0, 0, 7, 0), NONE);
        is("37 where", x.lost(0, 0, 1, -1), NONE);
        is("37 where", x.lost(0, 0, 1, 52), NONE);

        // by the flow of each step: 1000 from MINUTE 10 on
        SlackRace y = new SlackRace();
        Due.rule(y, "gains 500 if minute < 2;gains 0 if minute > 1");
        is("37 the step's own flow", y.lost(22, 0, 1, 32), 500000);
        is("37 the step's own flow", y.lost(22, 0, 2, 33), 500000);
        is("37 the step's own flow", y.lost(22, 1, 1, 23), 1000000);
        int sum = 0;
        for (int where = 0; where < 52; where++) {
            sum += y.lost(22, 0, 6, where);
        }
        is("37 all together", sum, 1000000);
    }

    // ---- promises 38, 39

    private static void drawnDays() {
        SlackRace x = new SlackRace();
        refused(x, "38 seed", x.day(-1), -1);
        refused(x, "38 seed", x.day(1000001), -1);
        is("39 none yet", x.drawn(0), NOTHING);
        Due.rule(x, "gains wind if minute / 60 * 60 = minute;gains 0 if minute / 60 * 60 < minute");
        // by hand: 12345, then 629109, 911550, ..; modulo 41, less 20
        long s = 0;
        int flow = 0;
        int slacks = 1;
        boolean still = true;
        int[] due = new int[24];
        for (int hour = 0; hour < 24; hour++) {
            s = (s * 1103 + 12345) % 1000003;
            flow += (int) (s % 41) - 20;
            due[hour] = flow;
            boolean now = Math.abs(flow) <= 50;
            slacks += now && !still ? 1 : 0;
            still = now;
        }
        is("38 first number", 12345 % 41 - 20, due[0]);
        is("38 slacks", x.day(0), slacks);
        is("38 status", x.status(), 0);
        is("39 start", x.drawn(0), 0);
        for (int hour = 0; hour < 24; hour++) {
            is("39 hour " + hour, x.drawn(hour * 60 + 1), due[hour]);
            is("39 hour " + hour, x.drawn(hour * 60 + 59), due[hour]);
        }
        is("39 minute", x.drawn(1440), NOTHING);
        is("39 minute", x.drawn(-1), NOTHING);
        is("13 the day itself has its own wind", x.flow(1000), 0);
        refused(x, "38 seed", x.day(-5), -1);
        is("39 the latest that was", x.drawn(1), due[0]);
        x.terms(4, 77);
        is("39 kept as it was drawn", x.drawn(0), 0);
        x.day(1000000);
        is("39 start", x.drawn(0), 77);
        is("38 the greatest seed", x.drawn(1), 77 + (int) ((1000000L * 1103 + 12345) % 1000003 % 41) - 20);

        // the wind sets the level too: (5 * wind * 8 - 0) / 40 is the wind
        SlackRace y = new SlackRace();
        y.sea(0, 2, 5);
        y.terms(1, 0);
        y.day(0);
        is("38 by the level", y.drawn(60), 60 * due[0]);
        is("38 by the level", y.drawn(120), 60 * due[0] + 60 * (due[1] - due[0]));
    }

    // ---- promises 40 to 43

    private static void images() {
        SlackRace x = new SlackRace();
        refused(x, "40 below", x.image(-1), -1);
        refused(x, "40 beyond", x.image(2), -1);
        refused(x, "41 below", x.back(-1), -1);
        refused(x, "41 beyond", x.back(2), -1);
        refused(x, "41 not kept", x.back(0), -2);
        x.sea(0, 0, 10);
        x.moon(1, 2, 0, 0);
        x.moon(1, 2, 1, 100);
        x.terms(6, 7);
        x.kind(13, 4);
        Due.rule(x, "gains 1");
        x.boat(7, 8);
        x.ship(9, 10, 0);
        x.cast(11, 12);
        x.move(3);
        x.day(5);
        int drawn = x.drawn(100);
        is("40 kept", x.image(1), 0);
        refused(x, "41 the other is not", x.back(0), -2);
        x.sea(0, 0, 20);
        x.moon(1, 2, 1, 200);
        x.terms(6, 8);
        x.kind(13, 5);
        Due.rule(x, "gains 2");
        Due.makeLaw(x, "gains zz");
        Due.row(x, 9, 9);
        x.boat(70, 80);
        x.ship(90, 100, 110);
        x.cast(110, 120);
        x.move(4);
        x.day(6);
        is("38 a new one", x.drawn(100) == drawn ? 1 : 0, 0);
        int later = x.drawn(100);
        is("40 kept", x.image(0), 0);
        Due.type(x, "abc");
        int bad = x.count(6);
        is("41 ahead of it", x.flow(10), 20);
        is("41 ahead of it", x.level(0, 0), 20);
        is("41 ahead of it", x.order(NONE), NONE);
        int agreed = x.agree(0, 0);
        x.tear();
        x.move(1);
        is("41 back", x.back(1), 0);
        is("41 level", x.level(0, 0), 10);
        is("41 one float agrees with more than two", x.agree(0, 0) > agreed ? 1 : 0, 1);
        x.boat(100, 99);
        // the plan is 3, the next row: there is none below 40
        is("41 the moves themselves", x.done(1, 0, 45, 0), 0);
        is("41 back", x.back(1), 0);
        is("41 counts", x.count(0) * 10000 + x.count(1) * 1000 + x.count(2) * 100 + x.count(3) * 10
                + x.count(4), 11111);
        is("41 in force", x.count(10), 0);
        is("41 flow", x.flow(10), 10);
        is("41 ships", x.begins(0), NONE);
        is("41 kind", x.cell(13, 0, 2), 4);
        is("41 the tape stays", x.count(5), 3);
        is("41 the fault stays", x.fault(), 6);
        is("41 the foul stay", x.foul(), 2);
        is("41 refusals stay", x.count(6), bad);
        is("41 the drawn day stays", x.drawn(100), later);
        is("41 sea", x.sea(0, 0, 30), 10);
        is("41 moon", x.moon(1, 2, 1, 300), 100);
        is("41 terms", x.terms(6, 9), 7);
        is("41 plan", x.tear(), 1);
        is("41 laws", Due.makeLaw(x, "abc"), -6);
        x.end(0);
        is("41 laws", Due.makeLaw(x, "gains 3"), 1);
        is("41 images stay", x.back(1), 0);
        is("41 sea again", x.sea(0, 0, 10), 10);
        is("41 plan again", x.count(3), 1);
        is("41 to the other", x.back(0), 0);
        is("41 sea of the other", x.sea(0, 0, 20), 20);
        is("41 counts of the other", x.count(0) * 10000 + x.count(1) * 1000 + x.count(2) * 100
                + x.count(3) * 10 + x.count(4), 22222);
        is("41 force of the other", x.count(10), 1);
        is("41 flow of the other", x.flow(10), 20);
    }

    private static void counts() {
        SlackRace x = new SlackRace();
        x.boat(1, 1);
        x.boat(1, 1);
        x.ship(0, 1, 0);
        Due.makeLaw(x, "white 1");
        x.move(0);
        x.move(0);
        x.move(0);
        for (int i = 0; i < 4; i++) {
            x.cast(0, 0);
        }
        x.feed(0, 0, 0, 0, 0);
        x.end(5);
        int[] due = {2, 1, 1, 3, 4, 5, 0, 0, 0, 0, NONE};
        for (int what = 0; what <= 10; what++) {
            is("42 count " + what, x.count(what), due[what]);
        }
        x.sea(9, 9, 9);
        x.boat(0, 0);
        x.image(7);
        x.force(3);
        x.back(0);
        for (int i = 0; i < 7; i++) {
            x.boat(1, 1);
        }
        x.end(0);
        x.row();
        x.law();
        x.force(0);
        is("42 by -1", x.count(6), 3);
        is("42 by -2", x.count(7), 2);
        is("42 by -5", x.count(8), 3);
        is("42 by -6", x.count(9), 2);
        is("42 in force", x.count(10), 0);
        is("42 others", x.count(11), NONE);
        is("42 others", x.count(-1), NONE);
        // what answers NONE or NOTHING is not refused
        x.soonest(9, 9, 9, 99);
        x.flow(-1);
        x.end(99);
        x.agree(9, 9);
        is("42 by -1, still", x.count(6), 3);
    }

    private static void statuses() {
        SlackRace x = new SlackRace();
        is("43 ahead of any", x.status(), 0);
        x.terms(99, 0);
        is("43 refused", x.status(), -1);
        x.flow(0);
        x.feed(0, 0, 0, 0, 0);
        x.end(0);
        x.tear();
        x.count(0);
        x.fault();
        x.foul();
        x.status();
        is("43 other calls do not matter", x.status(), -1);
        x.terms(0, 8);
        is("43 not", x.status(), 0);
        x.law();
        is("43 law", x.status(), -6);
        x.sea(0, 0, 0);
        is("43 sea", x.status(), 0);
        x.force(5);
        is("43 force", x.status(), -2);
        x.moon(0, 0, 0, 0);
        is("43 moon", x.status(), 0);
        x.row();
        is("43 row", x.status(), -6);
        x.kind(0, 0);
        is("43 kind", x.status(), 0);
        x.back(0);
        is("43 back", x.status(), -2);
        x.boat(1, 1);
        is("43 boat", x.status(), 0);
        x.move(9);
        is("43 move", x.status(), -1);
        x.move(0);
        is("43 move", x.status(), 0);
        x.ship(0, 0, 0);
        is("43 ship", x.status(), -1);
        x.ship(0, 1, 0);
        is("43 ship", x.status(), 0);
        x.cast(-1, 0);
        is("43 cast", x.status(), -1);
        x.cast(0, 0);
        is("43 cast", x.status(), 0);
        x.day(-1);
        is("43 day", x.status(), -1);
        x.day(0);
        is("43 day", x.status(), 0);
        x.image(2);
        is("43 image", x.status(), -1);
        x.image(0);
        is("43 image", x.status(), 0);
        x.kind(-1, 0);
        x.back(0);
        is("43 back", x.status(), 0);
    }
}
