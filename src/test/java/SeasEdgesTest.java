/**
 * The edges of section I of the document's Terms and of promises 1 to 8 and 12, sentence by
 * sentence. Bounds of single numbers stand in BoundsTest.
 */
public final class SeasEdgesTest {
    private static final int NONE = SlackRace.NONE;
    private static final Due DUE = new Due();

    public static void main(String[] args) {
        firstValuesTell();
        whatItWas();
        divisionIsCutTowardsZero();
        waveTurnsAtTwoThousand();
        waveIsCutByThousands();
        minuteAndPhaseGoRound();
        shortestAndLongestPeriod();
        highestAndLowestLevel();
        answerAndSetOfEachEnd();
        tapeIsFullAtFourHundred();
        tapeTakesBytesOfAllSorts();
        tapeIsCutAndGoesOn();
        rowTakesKindsToFive();
        rowEndsAtTheLastCell();
        emptyRowIsRefused();
        foulIsOfTheLatestRow();
        DUE.close("SeasEdgesTest");
    }

    private static void is(String what, long got, long want) {
        DUE.is(what, got, want);
    }

    private static SlackRace moonOf(int height, int period, int phase) {
        SlackRace x = new SlackRace();
        x.moon(0, 0, 0, height);
        x.moon(0, 0, 1, period);
        x.moon(0, 0, 2, phase);
        return x;
    }

    /** "(0 each at first)", "HEIGHT (0 at first), PERIOD (720), PHASE (0)": by what they do. */
    private static void firstValuesTell() {
        SlackRace x = new SlackRace();
        x.terms(9, 40);
        x.terms(10, 950);
        for (int minute = 0; minute < 1440; minute += 180) {
            is("1 ANSWER, SET, HEIGHT are 0 at first", x.level(0, minute), 0);
            is("1 ANSWER, SET, HEIGHT are 0 at first", x.level(1, minute), 0);
        }
        for (int end = 0; end < 2; end++) {
            for (int moon = 0; moon < 4; moon++) {
                SlackRace y = new SlackRace();
                y.moon(end, moon, 0, 500);
                is("1 PHASE is 0 at first", y.level(end, 0), 0);
                is("1 PERIOD is 720 at first: a quarter", y.level(end, 180), 500);
                is("1 PERIOD is 720 at first: three quarters", y.level(end, 540), -500);
                is("1 the other END has none of it", y.level(1 - end, 180), 0);
            }
        }
    }

    /** "what it was", with what was last taken, not last tried. */
    private static void whatItWas() {
        SlackRace x = new SlackRace();
        x.sea(1, 2, -1);
        x.sea(1, 2, 6);
        is("2 what it was", x.sea(1, 2, 3), -1);
        x.moon(1, 3, 1, 2000);
        x.moon(1, 3, 1, 2001);
        is("3 what it was", x.moon(1, 3, 1, 60), 2000);
        x.terms(9, -1);
        x.terms(9, -41);
        is("4 what it was", x.terms(9, 0), -1);
        is("4 -1 is no refusal there", x.status(), 0);
    }

    /** "/ is cut towards 0 throughout." */
    private static void divisionIsCutTowardsZero() {
        // 1 of 60: x is 66, 66 * 1934 / 1000 is 127, 500 * 127 / 1000 is 63.5
        SlackRace x = moonOf(500, 60, 0);
        is("I cut above 0", x.level(0, 1), 63);
        is("I cut below 0, towards 0", x.level(0, 31), -63);
        SlackRace y = new SlackRace();
        y.sea(0, 0, -9);
        // -72 / 40 is -1.8
        is("I cut below 0, towards 0", y.flow(1), -1);
        y.sea(0, 0, 9);
        is("I cut above 0", y.flow(1), 1);
    }

    /** "up to 2,000 it is .., beyond it - (..)". */
    private static void waveTurnsAtTwoThousand() {
        SlackRace x = moonOf(500, 2000, 0);
        is("I x is 2,000", x.level(0, 1000), 0);
        // x is 1998: 1998 * 2 / 1000 is 3; 500 * 3 / 1000 is 1
        is("I just ahead of it", x.level(0, 999), 1);
        is("I just behind it", x.level(0, 1001), -1);
        // 4,000,000 / 1999 is 2001: - (1 * 1999 / 1000) is -1, half of which is cut to 0
        SlackRace y = moonOf(500, 1999, 0);
        is("I x is 2,001", y.level(0, 1000), 0);
        is("I x is 1,998", y.level(0, 999), 1);
    }

    private static void waveIsCutByThousands() {
        // 970 * 1030 is 999,100: 999 of a thousand, ahead of and behind 2,000
        SlackRace x = moonOf(500, 2000, 485);
        is("I 999", x.level(0, 0), 499);
        is("I - 999", x.level(0, 1000), -499);
        x.moon(0, 0, 0, 1);
        is("I a HEIGHT of 1 is cut but at the top", x.level(0, 0), 0);
        is("I a HEIGHT of 1 at the top", x.level(0, 15), 1);
        is("I a HEIGHT of 1 behind it", x.level(0, 16), 0);
        is("I a HEIGHT of 1 at the foot", x.level(0, 1015), -1);
    }

    /** "(MINUTE and PHASE modulo PERIOD)": both together go round. */
    private static void minuteAndPhaseGoRound() {
        // 1999 is 33 times 60 and 19: x is 1266, 929 of a thousand
        SlackRace x = moonOf(100, 60, 1999);
        is("I PHASE beyond many PERIODS", x.level(0, 0), 92);
        // 3438 is 57 times 60 and 18: x is 1200, 960 of a thousand
        is("I the last MINUTE", x.level(0, 1439), 96);
        SlackRace y = moonOf(500, 2000, 1999);
        // x is 3998: - (1998 * 2 / 1000) is -3
        is("I the last of a PERIOD", y.level(0, 0), -1);
        is("I the first of the next", y.level(0, 1), 0);
        is("I the next", y.level(0, 2), 1);
        SlackRace z = moonOf(500, 100, 100);
        is("I PHASE as long as the PERIOD is as 0", z.level(0, 0), 0);
        is("I PHASE as long as the PERIOD is as 0", z.level(0, 25), 500);
    }

    private static void shortestAndLongestPeriod() {
        SlackRace x = moonOf(500, 60, 0);
        for (int minute = 0; minute + 60 < 1440; minute += 60) {
            is("I PERIOD 60: high", x.level(0, minute + 15), 500);
            is("I PERIOD 60: low", x.level(0, minute + 45), -500);
            is("I PERIOD 60: anew", x.level(0, minute + 60), 0);
        }
        SlackRace y = moonOf(500, 2000, 0);
        is("I PERIOD 2000: high", y.level(0, 500), 500);
        // x is 2878: 878 * 1122 / 1000 is 985
        is("I PERIOD 2000: the last MINUTE", y.level(0, 1439), -492);
    }

    private static void highestAndLowestLevel() {
        SlackRace x = new SlackRace();
        for (int moon = 0; moon < 4; moon++) {
            x.moon(0, moon, 0, 500);
            x.moon(0, moon, 1, 1000);
        }
        x.sea(0, 0, 500);
        x.sea(0, 1, 3);
        x.sea(0, 2, 5);
        x.terms(10, 950);
        x.terms(9, 40);
        is("12 the highest there is", x.level(0, 250), 500 + 4 * 500 + 3 * 63 + 5 * 40);
        x.sea(0, 0, -500);
        x.terms(10, 1050);
        x.terms(9, -40);
        is("12 the lowest there is", x.level(0, 750), -500 - 4 * 500 - 3 * 37 - 5 * 40);
        x.sea(0, 2, -5);
        is("12 a SET below 0 with a WIND below 0", x.level(0, 750), -500 - 4 * 500 - 3 * 37 + 200);
    }

    /** "ANSWER times (1,013 - GLASS), and SET times WIND": of the END itself. */
    private static void answerAndSetOfEachEnd() {
        SlackRace x = new SlackRace();
        x.sea(0, 1, 1);
        x.sea(1, 1, 2);
        x.sea(0, 2, -3);
        x.sea(1, 2, 4);
        is("12 GLASS 1013, WIND 0: nothing", x.level(0, 0), 0);
        x.terms(10, 1014);
        is("12 GLASS above", x.level(0, 0), -1);
        is("12 GLASS above", x.level(1, 0), -2);
        x.terms(10, 1012);
        is("12 GLASS below", x.level(0, 0), 1);
        is("12 GLASS below", x.level(1, 0), 2);
        x.terms(9, 1);
        is("12 WIND above", x.level(0, 0), 1 - 3);
        is("12 WIND above", x.level(1, 0), 2 + 4);
        x.terms(9, -1);
        is("12 WIND below", x.level(0, 0), 1 + 3);
        is("12 WIND below", x.level(1, 0), 2 - 4);
    }

    /** "NONE, if there would be more than 400." */
    private static void tapeIsFullAtFourHundred() {
        for (int has = 379; has <= 400; has++) {
            SlackRace x = new SlackRace();
            for (int i = 0; i < 20; i++) {
                x.feed(0x05050505, 0x05050505, 0x05050505, 0x05050505, 0x05050505);
            }
            x.end(has);
            boolean fits = has <= 380;
            is("5 at " + has, x.feed(0, 0, 0, 0, 0), fits ? has + 20 : NONE);
            is("5 at " + has + ": how many", x.count(5), fits ? has + 20 : has);
            is("5 no refused call", x.count(8), 0);
        }
    }

    /** "four of each number, the highest first": with signs above 127, of numbers below 0. */
    private static void tapeTakesBytesOfAllSorts() {
        SlackRace x = new SlackRace();
        x.feed(0x80000001, 0xff020003, -1, 0x0500007f, 0x00000004);
        is("5 bytes above 127 are no KINDS", x.row(), 20 - 7);
        is("8 bytes above 127 are FOUL", x.foul(), 7);
        int[] kinds = {1, 0, 0, 1, 1, 2, 0, 3, 1, 1, 1, 1, 5, 0, 0, 1, 0, 0, 0, 4};
        for (int cell = 0; cell < 20; cell++) {
            is("5 byte " + cell, x.cell(cell, 0, 2), kinds[cell]);
        }
    }

    /** "The TAPE has its first n bytes alone": what comes next stands behind these. */
    private static void tapeIsCutAndGoesOn() {
        SlackRace x = new SlackRace();
        is("6 none, and none are wanted", x.end(0), 0);
        is("6 it has not so many", x.end(1), NONE);
        x.feed(0x02030405, 0, 0, 0, 0);
        is("6 it has not so many", x.end(21), NONE);
        is("6 as it is", x.count(5), 20);
        is("6 all of it", x.end(20), 20);
        is("6 three", x.end(3), 3);
        is("6 it has not so many any more", x.end(4), NONE);
        is("6 below 0", x.end(-1), NONE);
        is("6 as it is", x.count(5), 3);
        is("5 behind the three", x.feed(0x05000000, 0, 0, 0, 0), 23);
        is("6 four", x.end(4), 4);
        is("7 four", x.row(), 4);
        int[] kinds = {2, 3, 4, 5, 1};
        for (int cell = 0; cell < kinds.length; cell++) {
            is("6 byte " + cell, x.cell(cell, 0, 2), kinds[cell]);
        }
    }

    /** "a byte above 5 .. is FOUL: nothing": the CELL has the KIND that it had. */
    private static void rowTakesKindsToFive() {
        for (int sign = 0; sign < 256; sign++) {
            SlackRace x = new SlackRace();
            x.kind(1, 4);
            Due.row(x, 3, sign, 2);
            is("7 byte " + sign, x.cell(1, 0, 2), sign <= 5 ? sign : 4);
            is("8 byte " + sign, x.foul(), sign <= 5 ? 0 : 1);
            is("7 the CELL ahead", x.cell(0, 0, 2), 3);
            is("7 the CELL behind, at its own place", x.cell(2, 0, 2), 2);
            is("7 no other", x.cell(3, 0, 2), 1);
        }
    }

    /** "or beyond the CELLS, is FOUL": once, be it above 5 or not. */
    private static void rowEndsAtTheLastCell() {
        int[] lengths = {1, 49, 50, 51, 52, 399, 400};
        for (int length : lengths) {
            SlackRace x = new SlackRace();
            Due.type(x, "\3".repeat(length));
            is("7 a row of " + length, x.row(), Math.min(50, length));
            is("8 a row of " + length, x.foul(), Math.max(0, length - 50));
            is("7 the last CELL", x.cell(49, 0, 2), length >= 50 ? 3 : 1);
            is("7 the TAPE is empty then", x.count(5), 0);
        }
        SlackRace y = new SlackRace();
        Due.type(y, "\3".repeat(49) + "\6\6\5");
        is("7 the last CELL is FOUL", y.row(), 49);
        is("8 FOUL, FOUL and beyond, beyond", y.foul(), 3);
        is("7 the last CELL", y.cell(49, 0, 2), 1);
    }

    /** "-6 the TAPE is empty": also when it has been cut to nothing; a ROW of FOUL bytes is none. */
    private static void emptyRowIsRefused() {
        SlackRace x = new SlackRace();
        is("7 empty at first", x.row(), -6);
        x.feed(0, 0, 0, 0, 0);
        x.end(0);
        is("7 cut to nothing", x.row(), -6);
        is("7 counted", x.count(9), 2);
        is("7 no CELL changed", x.cell(0, 0, 2), 1);
        x.feed(-1, -1, -1, -1, -1);
        is("7 all FOUL: none came", x.row(), 0);
        is("7 that is no refused call", x.status(), 0);
        is("7 empty behind that", x.row(), -6);
    }

    /** "in the latest row() that was not REFUSED (0 ahead of any)". */
    private static void foulIsOfTheLatestRow() {
        SlackRace x = new SlackRace();
        is("8 ahead of any", x.foul(), 0);
        x.row();
        is("8 ahead of any but a refused one", x.foul(), 0);
        Due.row(x, 9, 9, 1);
        is("8 two", x.foul(), 2);
        x.row();
        is("8 a refused one does not matter", x.foul(), 2);
        Due.makeLaw(x, "gains");
        is("8 a law does not matter", x.foul(), 2);
        Due.row(x, 1);
        is("8 none in the latest", x.foul(), 0);
    }
}
