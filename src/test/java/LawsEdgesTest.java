/**
 * The edges of section II of the document's Terms and of promises 9 to 11, 13, 16 and 17,
 * sentence by sentence: LAWS, FLOW, SLACKS.
 */
public final class LawsEdgesTest {
    private static final int NONE = SlackRace.NONE;
    private static final int NOTHING = SlackRace.NOTHING;
    private static final Due DUE = new Due();

    public static void main(String[] args) {
        textsOfAllLengths();
        tokensAreLongestRows();
        onlyTheBlankIsBlank();
        numbersToAThousand();
        twelveClauses();
        fiftyParts();
        eightBrackets();
        faultIsTheFirstTokenThatCannotGoOn();
        sixLaws();
        faultIsOfTheLatestThatWasRead();
        forceAndNone();
        comparisonsJust();
        lawsOneBehindTheOther();
        brokenBeyondABillion();
        brokenByNothing();
        askedOnlyIfItMatters();
        theLastThatHolds();
        wordsTellWhatIs();
        gainsToFiveHundred();
        flowToTwoThousand();
        gainWithoutALaw();
        gainIsOfThisMinute();
        stillIsSlack();
        slacksAtTheEndsOfTheDay();
        asManySlacksAsThereCanBe();
        howLongSinceTheGreatest();
        lateThanWithoutWeather();
        DUE.close("LawsEdgesTest");
    }

    private static void is(String what, long got, long want) {
        DUE.is(what, got, want);
    }

    private static void reads(String text) {
        SlackRace x = new SlackRace();
        is("9 '" + text + "'", Due.makeLaw(x, text), 0);
        is("10 '" + text + "'", x.fault(), NONE);
    }

    private static void faults(String text, int place) {
        SlackRace x = new SlackRace();
        is("9 '" + text + "'", Due.makeLaw(x, text), -6);
        is("10 '" + text + "'", x.fault(), place);
        is("9 the TAPE is empty then", x.count(5), 0);
        is("9 no LAW", x.count(2), 0);
        is("9 counted", x.count(9), 1);
    }

    /** "-6 (blanks alone: FAULT at the end)", "the end's: the TEXT's length". */
    private static void textsOfAllLengths() {
        for (int length : new int[] {0, 1, 2, 19, 20, 21, 399, 400}) {
            faults(" ".repeat(length), length);
        }
        for (int length : new int[] {7, 20, 399, 400}) {
            reads("gains" + " ".repeat(length - 6) + "1");
            reads("gains 1" + " ".repeat(length - 7));
            reads(" ".repeat(length - 7) + "gains 1");
            faults("gains" + " ".repeat(length - 5), length);
            faults(" ".repeat(length - 7) + "gains +", length - 1);
        }
    }

    /** "longest rows of letters a .. z, of digits, single other bytes, any blanks between". */
    private static void tokensAreLongestRows() {
        reads("gains1");
        reads("gains 1if 2=2");
        reads("gains flow*10if fall<3or flow>2and 1=1;white 5");
        reads("gains[1]+[2]");
        faults("gainsfall", 0);
        faults("gains fallflow", 6);
        faults("gains 1 ifnot 1=1", 8);
        faults("gains 1 if not1", 15);
        faults("gains 1 if not a1", 15);
        faults("gains 10 00", 9);
        faults("gains 1 flow", 8);
        faults("gains 1flow", 7);
        faults("gains f low", 6);
        faults("ga ins 1", 0);
        faults("gains 1 i f 1=1", 8);
        faults("gains 1 if 1==1", 13);
        faults("gains 1 if 1<=1", 13);
        faults("gains 1 if 1=<1", 13);
        faults("gains 1 if 1>>1", 13);
        faults("gains 1++1", 8);
        faults("gains 1--1", 8);
        faults("gains 1**1", 8);
        faults("gains 1//1", 8);
        faults("gains 1;;white 1", 8);
        faults("gains []", 7);
        faults("gains 1 if ()", 12);
        faults("gains Fall", 6);
        faults("gains fallX", 10);
        faults("gains 1 IF 1=1", 8);
    }

    /** Blanks are 32 alone; the bytes next to a, z, 0, 9 are others. */
    private static void onlyTheBlankIsBlank() {
        for (int sign = 0; sign < 256; sign++) {
            String s = String.valueOf((char) sign);
            if (sign == ' ' || sign == '[') {
                continue;
            }
            if (sign >= '0' && sign <= '9') {
                reads("gains" + s + "1");
            } else if (sign >= 'a' && sign <= 'z') {
                faults("gains" + s + "1", 0);
            } else {
                faults("gains" + s + "1", 5);
            }
            boolean goesOn = sign >= '0' && sign <= '9' || sign == ';' || sign == '+'
                    || sign == '-' || sign == '*' || sign == '/';
            if (!goesOn) {
                faults("gains 1" + s, 7);
            }
            faults(s, 0);
        }
        faults("gains 1\t", 7);
        faults("gains 1\n", 7);
        faults("gains " + (char) 160 + "1", 6);
        // 'a' with the highest bit set is no letter
        faults("gains 1 if 1=1 " + (char) ('o' | 128) + "r 1=1", 15);
    }

    /** "NUMBER (to 1,000)": by its worth, not its length. */
    private static void numbersToAThousand() {
        reads("gains 0");
        reads("gains 999");
        reads("gains 1000");
        reads("gains 01000");
        reads("gains " + "0".repeat(390) + "1000");
        reads("gains " + "0".repeat(394));
        faults("gains 1001", 6);
        faults("gains 9999", 6);
        faults("gains 10000", 6);
        faults("gains 01001", 6);
        // as they would be if they went round at 2 to the 31st, the 32nd, the 64th
        faults("gains 2147483648", 6);
        faults("gains 4294967296", 6);
        faults("gains 4294967297", 6);
        faults("gains 18446744073709551616", 6);
        faults("gains 18446744073709551617", 6);
        faults("gains " + "9".repeat(394), 6);
        faults("gains " + "0".repeat(390) + "1001", 6);
        faults("gains 1 if 1 < 1001", 15);
        faults("gains 1 * 5 + [1001]", 15);
    }

    /** "CLAUSE {";" CLAUSE}, 12 at most (FAULT at the 13th's first TOKEN)." */
    private static void twelveClauses() {
        String twelve = "gains 1" + ";gains 2".repeat(11);
        reads(twelve);
        reads("white 1" + ";white 1 if 1=1".repeat(11));
        faults(twelve + ";gains 3", twelve.length() + 1);
        faults(twelve + ";   white 3", twelve.length() + 4);
        faults(twelve + ";", twelve.length() + 1);
        faults(twelve + ";  ", twelve.length() + 3);
        faults(twelve + "; ?", twelve.length() + 2);
        faults(twelve + ";gains", twelve.length() + 1);
        faults(twelve + " ?", twelve.length() + 1);
        faults(twelve + "gains 3", twelve.length());
    }

    /** "50 PARTS that are NUMBERS and words (FAULT at the 51st)": of the TEXT, brackets not. */
    private static void fiftyParts() {
        String fifty = "gains 1" + "+1".repeat(49);
        reads(fifty);
        reads("gains " + "[".repeat(8) + "1" + "]".repeat(8) + "+[1]".repeat(49));
        reads("gains kind" + "+kind".repeat(49));
        reads("gains 1" + "+1".repeat(24) + ";white 2" + "+2".repeat(24));
        reads("gains 1" + "+1".repeat(24) + " if 1" + "+1".repeat(23) + "<3");
        faults(fifty + "+1", fifty.length() + 1);
        faults(fifty + "+ fall", fifty.length() + 2);
        faults(fifty + "*[1]", fifty.length() + 2);
        faults(fifty + ";white 1", fifty.length() + 7);
        faults(fifty + " if 1=1", fifty.length() + 4);
        faults(fifty + " if (1=1)", fifty.length() + 5);
        faults(fifty + "+", fifty.length() + 1);
        String mixed = "gains 1" + "+fall".repeat(24) + ";white 2" + "+2".repeat(24);
        faults(mixed + "+2", mixed.length() + 1);
        // 49 and a TEST, which has two
        String test = "gains 1" + "+1".repeat(48) + " if 1<";
        faults(test + "2", test.length());
    }

    /** "8 brackets of both kinds within one another (FAULT at the 9th)". */
    private static void eightBrackets() {
        for (int round = 0; round <= 8; round++) {
            String open = "(".repeat(round) + "[".repeat(8 - round);
            String shut = "]".repeat(8 - round) + "=1" + ")".repeat(round);
            reads("gains 1 if " + open + "1" + shut);
            reads("gains 1 if not " + open + "1" + shut + " and 1=1");
            int ninth = 11 + 8;
            faults("gains 1 if " + open + "[1]" + shut, ninth);
            faults("gains 1 if " + open + "[", ninth);
            if (round == 8) {
                faults("gains 1 if " + open + "(1=1)" + ")".repeat(8), ninth);
                faults("gains 1 if " + open + "not (1=1)" + ")".repeat(8), ninth + 4);
            }
        }
        String eight = "[".repeat(8) + "1" + "]".repeat(8);
        reads("gains " + eight + "+" + eight + "*" + eight);
        reads("gains " + eight + " if " + eight + "<" + eight);
        reads("gains " + eight + ";white " + eight);
        reads("gains 1 if " + "(1=1) or ".repeat(12) + "(1=1)");
        String seven = "[".repeat(7) + "1" + "]".repeat(7);
        reads("gains [" + seven + "+" + seven + "]");
        faults("gains [" + seven + "+[" + seven + "]]", 6 + 1 + 15 + 1 + 1 + 7 - 1);
        faults("gains " + "[".repeat(400 - 6), 14);
        faults("gains 1 if " + "(".repeat(400 - 11), 19);
    }

    /** "the first TOKEN that can't go on there". */
    private static void faultIsTheFirstTokenThatCannotGoOn() {
        faults("white", 5);
        faults(";gains 1", 0);
        faults("gains ;", 6);
        faults("gains 1 white 2", 8);
        faults("gains 1] ", 7);
        faults("gains 1)", 7);
        faults("gains [1]]", 9);
        faults("gains [1;gains 2", 8);
        faults("gains [1 if 1=1]", 9);
        faults("gains *1", 6);
        faults("gains 1 if ;", 11);
        faults("gains 1 if and", 11);
        faults("gains 1 if 1 and 2", 13);
        faults("gains 1 if 1=1 and or", 19);
        faults("gains 1 if 1=1 or and", 18);
        faults("gains 1 if (1=1]", 15);
        faults("gains 1 if (1=1 ; gains 2", 16);
        faults("gains 1 if (1=1)) or 2=2", 16);
        faults("gains 1 if (1=1)=1", 16);
        faults("gains 1 if (1)=1", 13);
        faults("gains 1 if (1+1)*2=1", 15);
        faults("gains 1 if [1=1]", 13);
        faults("gains 1 if 1=(1)", 13);
        faults("gains 1 if 1=not 1", 13);
        faults("gains 1 if not not", 18);
        faults("gains not 1", 6);
        faults("gains or", 6);
        faults("gains white", 6);
        faults("gains 1 if gains", 11);
        faults("gains 1 if 1=1 1", 15);
        // the TEXT ends where something is to come
        String[] open = {"gains", "gains 1+", "gains 1-", "gains 1*", "gains 1/", "gains [",
            "gains [1", "gains [1+", "gains [1*", "gains 1 if", "gains 1 if 1", "gains 1 if 1<",
            "gains 1 if 1>", "gains 1 if 1=", "gains 1 if 1=1 or", "gains 1 if 1=1 and",
            "gains 1 if not", "gains 1 if (", "gains 1 if (1", "gains 1 if (1=1",
            "gains 1 if (1=1 or", "gains 1 if (1=1 and", "gains 1 if 1=1 and not",
            "gains 1 if 1+", "gains 1 if 1*", "gains 1 if 1=1*", "gains 1 if 1=1+",
            "gains 1;", "gains 1;white", "gains 1 if 1=1;", "white"};
        for (String text : open) {
            faults(text, text.length());
            faults(text + "  ", text.length() + 2);
            // nor can a stray sign go on there
            faults(text + " ?", text.length() + 1);
            faults(text + " ;", text.length() + 1);
        }
        // a later one does not matter
        faults("gains ? 1 if 1=1 ? ;", 6);
        // as many "not" as fit
        reads("gains 1 if " + "not ".repeat(96) + "1=1");
        faults("gains 1 if " + "not ".repeat(97), 11 + 4 * 97);
    }

    /** "LAWS .., 6 at most": "-5 (ahead of reading it; the TAPE is empty then, too)". */
    private static void sixLaws() {
        SlackRace x = new SlackRace();
        x.image(0);
        for (int i = 0; i < 6; i++) {
            is("9 number", Due.makeLaw(x, "gains " + (i + 1)), i);
            is("9 how many", x.count(2), i + 1);
            // one that can't be read takes no number
            if (i < 5) {
                is("9 not read", Due.makeLaw(x, "gains ?"), -6);
                is("10 not read", x.fault(), 6);
            }
        }
        is("10 of the sixth", x.fault(), NONE);
        is("9 no room for one that could be", Due.makeLaw(x, "gains 7"), -5);
        is("9 the TAPE is empty then, too", x.count(5), 0);
        is("9 no room for one that could not be", Due.makeLaw(x, "?"), -5);
        is("9 no room for none at all", x.law(), -5);
        is("9 counted by -5", x.count(8), 3);
        is("9 counted by -6", x.count(9), 5);
        is("10 they were not read", x.fault(), NONE);
        is("9 the six stand", x.count(2), 6);
        for (int i = 0; i < 6; i++) {
            x.force(i);
            is("11 each tells its own", x.flow(1), i + 1);
        }
        is("11 none is in FORCE in the image", x.back(0), 0);
        is("9 room again", Due.makeLaw(x, "gains 9"), 0);
        is("9 it is the new one", x.force(0) + x.flow(1), NONE + 9);
    }

    /** "FAULT of the latest law() that read a TEXT: its place; NONE without." */
    private static void faultIsOfTheLatestThatWasRead() {
        SlackRace x = new SlackRace();
        is("10 ahead of any", x.fault(), NONE);
        is("10 an empty TEXT is read, too", x.law(), -6);
        is("10 an empty TEXT", x.fault(), 0);
        Due.makeLaw(x, "gains 1");
        is("10 without", x.fault(), NONE);
        for (int i = 0; i < 4; i++) {
            Due.makeLaw(x, "gains 1");
        }
        Due.makeLaw(x, "gains 1 ?");
        is("10 with", x.fault(), 8);
        x.row();
        is("10 a row does not matter", x.fault(), 8);
        Due.makeLaw(x, "gains 1");
        Due.makeLaw(x, "gains 1 ?");
        is("10 the latest was not read: no room", x.fault(), NONE);

        SlackRace z = new SlackRace();
        z.image(0);
        Due.makeLaw(z, "??");
        is("10 a place", z.fault(), 0);
        Due.makeLaw(z, "gains 1");
        Due.makeLaw(z, "  ?");
        z.back(0);
        is("10 not kept by an image", z.fault(), 2);
    }

    /** "A LAW is in FORCE (NONE: none): which was. -2." */
    private static void forceAndNone() {
        SlackRace x = new SlackRace();
        is("11 without LAWS", x.force(0), -2);
        is("11 NONE without LAWS", x.force(NONE), NONE);
        is("11 that is no refused call", x.status(), 0);
        Due.makeLaw(x, "gains 3");
        is("11 not by itself", x.flow(1), 0);
        is("11 beyond", x.force(1), -2);
        is("11 none was", x.force(0), NONE);
        is("11 beyond: as it was", x.force(1), -2);
        is("11 in FORCE", x.flow(1), 3);
        is("11 the same", x.force(0), 0);
        is("11 below NONE", x.force(-2), -2);
        is("11 counted by -2", x.count(7), 4);
        is("11 none then", x.force(NONE), 0);
        is("11 no CLAUSE then", x.flow(1), 0);
        is("11 none was", x.force(NONE), NONE);
        // a LAW that can't be read leaves the one in FORCE
        x.force(0);
        Due.makeLaw(x, "gains");
        is("11 still", x.count(10), 0);
        is("11 still", x.flow(1), 3);
    }

    // ---- what LAWS tell: the FLOW at MINUTE 1, from 0

    private static void tells(String clauses, int told) {
        SlackRace x = new SlackRace();
        x.sea(0, 0, 300);
        x.terms(0, 1);
        x.terms(2, 1);
        is("13 read '" + clauses + "'", Due.makeLaw(x, clauses), 0);
        x.force(0);
        // without a law: fall 300 times 1, by 1
        is("13 '" + clauses + "'", x.flow(1), told == NOTHING ? 300 : told);
    }

    /** "Beyond 1,000,000,000 either way .. a SUM, a TEST is BROKEN." */
    private static void brokenBeyondABillion() {
        String big = "1000*1000*1000";
        String small = "[0-" + big + "]";
        tells("gains 7 if " + big + "=" + big, 7);
        tells("gains 7 if " + big + "+1>0", NOTHING);
        tells("gains 7 if not " + big + "+1<0", NOTHING);
        tells("gains 7 if 0<" + big + "+1", NOTHING);
        tells("gains 7 if " + big + "+0>0", 7);
        tells("gains 7 if " + small + "-0<0", 7);
        tells("gains 7 if " + small + "-1<0", NOTHING);
        tells("gains 7 if " + big + "-1>0", 7);
        tells("gains 7 if " + big + "*1>0", 7);
        tells("gains 7 if [" + big + "]*[0-1]<0", 7);
        tells("gains 7 if [" + big + "]*[" + big + "]>0", NOTHING);
        tells("gains 7 if " + small + "*" + small + ">0", NOTHING);
        tells("gains 7 if " + small + "*[" + big + "]<0", NOTHING);
        tells("gains 7 if " + small + "/[0-1]>0", 7);
        // 1,000,000,000 as 500 told at most, and - 1,000,000,000
        tells("gains " + big, 500);
        tells("gains " + small, -500);
        tells("gains " + big + "+1", NOTHING);
        tells("gains " + small + "-1", NOTHING);
        // beyond it on the way, though not in the end
        tells("gains " + big + "+1-1000", NOTHING);
        tells("gains " + big + "*10/1000/1000/1000", NOTHING);
        tells("gains " + big + "/1000*10/1000/1000", 10);
        // 2 to the 31st, the 32nd, and beyond 2 to the 63rd
        tells("gains 64*64*64*64*128-1000", NOTHING);
        tells("gains 64*64*64*64*256", NOTHING);
        tells("gains " + big + "*1000*1000*1000*1000", NOTHING);
    }

    /** "SUM ("<" | ">" | "=") SUM": just so and just not, and turned by "not". */
    private static void comparisonsJust() {
        int[][] due = {{1, 2, 1, 0, 0}, {2, 2, 0, 0, 1}, {2, 1, 0, 1, 0}};
        String[] signs = {"<", ">", "="};
        for (int[] d : due) {
            for (int sign = 0; sign < 3; sign++) {
                boolean so = d[2 + sign] == 1;
                String test = d[0] + signs[sign] + d[1];
                tells("gains 7 if " + test, so ? 7 : NOTHING);
                tells("gains 7 if not " + test, so ? NOTHING : 7);
                tells("gains 7 if not not " + test, so ? 7 : NOTHING);
                tells("gains 7 if not (" + test + ")", so ? NOTHING : 7);
                tells("gains 7 if not (not " + test + ")", so ? 7 : NOTHING);
                tells("gains 7 if not (1=1 and " + test + ")", so ? NOTHING : 7);
                tells("gains 7 if not (1=2 or " + test + ")", so ? NOTHING : 7);
                tells("gains 7 if not (" + test + " or 1=2)", so ? NOTHING : 7);
                tells("gains 7 if not (" + test + " and 1=1)", so ? NOTHING : 7);
            }
        }
        tells("gains 7 if 0-1<0", 7);
        tells("gains 7 if 0-2<0-1", 7);
        tells("gains 7 if 0-1>0-2", 7);
        tells("gains 7 if 0-0=0", 7);
    }

    /** Each LAW is read by itself: as long as can be, over and over, read or not. */
    private static void lawsOneBehindTheOther() {
        SlackRace x = new SlackRace();
        for (int i = 0; i < 6; i++) {
            String fifty = "gains " + i + "+1".repeat(46) + " if 1<2 or 3";
            is("9 not read", Due.makeLaw(x, "gains 1" + "+1".repeat(49) + "?"), -6);
            is("10 not read", x.fault(), 7 + 98);
            is("9 not read", Due.makeLaw(x, "gains " + "[".repeat(9)), -6);
            is("9 not read", Due.makeLaw(x, "gains 1" + ";gains 1".repeat(12)), -6);
            is("9 read", Due.makeLaw(x, fifty.substring(0, fifty.length() - 5)), i);
            is("10 read", x.fault(), NONE);
        }
        for (int i = 0; i < 6; i++) {
            x.force(i);
            is("13 each tells its own", x.flow(1), i + 46);
        }
    }

    /** "or divided by 0": 0 by anything else is 0. */
    private static void brokenByNothing() {
        tells("gains 0/1", 0);
        tells("gains 0/[0-5]", 0);
        tells("gains 0/0", NOTHING);
        tells("gains 1/[5-5]", NOTHING);
        tells("gains 5+1/flow", NOTHING);
        tells("gains 7 if 1/0=0", NOTHING);
        tells("gains 7 if 0=1/0", NOTHING);
        tells("gains 7 if 1/0=1/0", NOTHING);
        tells("gains 7 if not 1/0=0", NOTHING);
        tells("gains 7 if not not 1/0=0", NOTHING);
        tells("gains 7 if (1/0=0)", NOTHING);
        tells("gains [0-9]/2", -4);
        tells("gains 9/[0-2]", -4);
        tells("gains [0-9]/[0-2]", 4);
        tells("gains [0-1]/2", 0);
    }

    /** "("or", "and" ask what stands behind only if it can still matter)". */
    private static void askedOnlyIfItMatters() {
        String broken = "1/0=0";
        tells("gains 7 if 1=1 or " + broken, 7);
        tells("gains 7 if 1=2 or " + broken, NOTHING);
        tells("gains 7 if " + broken + " or 1=1", NOTHING);
        tells("gains 7 if 1=2 or 1=1 or " + broken, 7);
        tells("gains 7 if 1=2 or " + broken + " or 1=1", NOTHING);
        tells("gains 7 if 1=1 or " + broken + " and 1=1", 7);
        tells("gains 7 if not (1=2 and " + broken + ")", 7);
        tells("gains 7 if not (1=1 and " + broken + ")", NOTHING);
        tells("gains 7 if not (" + broken + " and 1=2)", NOTHING);
        tells("gains 7 if not (1=1 and 1=2 and " + broken + ")", 7);
        tells("gains 7 if 1=2 and " + broken + " or 1=1", 7);
        tells("gains 7 if 1=2 and " + broken + " or 1=2", NOTHING);
        tells("gains 7 if (1=1 or " + broken + ") and 1=1", 7);
        tells("gains 7 if (1=1 or " + broken + ") and 1=2", NOTHING);
        tells("gains 7 if (1=1 or " + broken + ") and " + broken, NOTHING);
        tells("gains 7 if 1=2 and (" + broken + " or " + broken + ") or 1=1", 7);
        tells("gains 7 if 1=1 and 1=1 or " + broken, 7);
    }

    /** "what the last CLAUSE with it that HOLDS tells", "without it". */
    private static void theLastThatHolds() {
        tells("gains 1;gains 2;gains 3", 3);
        tells("gains 1;gains 2;gains 3 if 1=2", 2);
        tells("gains 1;gains 2 if 1=2;gains 3/0", 1);
        tells("gains 1;gains 2;gains 3 if 1/0=0", 2);
        tells("gains 1 if 1=2;gains 3/0", NOTHING);
        tells("gains 1;white 2;white 3", 1);
        tells("white 2;gains 1;white 3", 1);
        tells("white 2", NOTHING);
        // all twelve are looked at
        tells("gains 1" + ";gains 2 if 1=2".repeat(11), 1);
        tells("gains 1 if 1=2" + ";gains 2 if 1=2".repeat(10) + ";gains 3", 3);
    }

    /** "fall ..; turbines: how many there are (0 but in IV); kind: .. (0 for "gains")". */
    private static void wordsTellWhatIs() {
        SlackRace x = new SlackRace();
        x.sea(0, 0, 10);
        x.sea(1, 0, 30);
        x.terms(9, -7);
        x.terms(10, 1050);
        x.terms(4, 5);
        for (int cell = 0; cell < 50; cell++) {
            x.kind(cell, 4);
        }
        String[] words = {"fall", "flow", "minute", "wind", "glass-1000", "kind", "turbines"};
        int[] due = {-20, 5, 0, -7, 50, 0, 0};
        for (int i = 0; i < words.length; i++) {
            x.image(0);
            Due.rule(x, "gains " + words[i]);
            is("13 " + words[i], x.flow(1), 5 + due[i]);
            x.back(0);
        }
        Due.rule(x, "gains 0;gains minute - 1000 if minute - 1000 = 438");
        is("13 the last MINUTE that gains", x.flow(1439) - x.flow(1438), 438);
    }

    /** "what "gains" tells .., -500 .. 500 (else the nearest)". */
    private static void gainsToFiveHundred() {
        int[] told = {499, 500, 501, 1000};
        for (int gain : told) {
            tells("gains " + gain, Math.min(500, gain));
            tells("gains 0-" + gain, -Math.min(500, gain));
        }
    }

    /** "(from -2,000 to 2,000, else the nearest)". */
    private static void flowToTwoThousand() {
        SlackRace x = new SlackRace();
        x.terms(4, 1000);
        Due.rule(x, "gains 500;gains 499 if minute = 1;gains 2 if minute = 2");
        is("13 on its way", x.flow(1), 1500);
        is("13 1,999", x.flow(2), 1999);
        is("13 2,001 is 2,000", x.flow(3), 2000);
        is("13 2,500 is 2,000", x.flow(4), 2000);
        is("13 at the end of the day", x.flow(1439), 2000);
        SlackRace y = new SlackRace();
        y.terms(4, -1000);
        Due.rule(y, "gains 0-500;gains 0-499 if minute = 1;gains 0-2 if minute = 2;"
                + "gains 1 if minute = 3");
        is("13 on its way", y.flow(1), -1500);
        is("13 -1,999", y.flow(2), -1999);
        is("13 -2,001 is -2,000", y.flow(3), -2000);
        is("13 it gains from -2,000", y.flow(4), -1999);
        is("13 at the end of the day", y.flow(1439), -2000);
        // without a law, from one end to the other at once
        SlackRace z = new SlackRace();
        z.terms(0, 50);
        z.terms(1, 0);
        z.terms(2, 1);
        z.terms(4, -1000);
        z.sea(0, 0, 500);
        z.sea(1, 0, -500);
        is("13 without a law", z.flow(1), 2000);
        z.terms(4, 1000);
        z.sea(0, 0, -500);
        z.sea(1, 0, 500);
        is("13 without a law", z.flow(1), -2000);
        is("13 START itself", z.flow(0), 1000);
    }

    /** "(fall times PUSH - FLOW times |FLOW| times [RUB ..] / 1,000) / MASS". */
    private static void gainWithoutALaw() {
        SlackRace x = new SlackRace();
        x.terms(2, 1);
        x.terms(4, -15);
        // 15 * 15 * 10 / 1000 is 2.25
        is("13 rubbed, below 0", x.flow(1), -13);
        x.terms(4, 15);
        is("13 rubbed, above 0", x.flow(1), 13);
        x.terms(1, 0);
        is("13 RUB 0", x.flow(1), 15);
        x.sea(0, 0, 7);
        x.terms(0, 0);
        is("13 PUSH 0", x.flow(1), 15);
        x.terms(0, 50);
        is("13 PUSH 50", x.flow(1), 15 + 350);
        x.terms(2, 500);
        is("13 MASS 500", x.flow(1), 15);
        x.sea(0, 0, 10);
        is("13 MASS 500", x.flow(1), 16);
        x.sea(0, 0, -19);
        is("13 MASS 500, - 950 / 500", x.flow(1), 14);
        // the most that rubs: 2,000 * 2,000 * 50 / 1,000 is 200,000, by 500
        x.sea(0, 0, 0);
        x.terms(1, 50);
        Due.rule(x, "gains 500 if minute < 4");
        // from 15 on
        is("13 2,000", x.flow(4), 2000);
        is("13 rubbed at 2,000", x.flow(5), 1600);
        // 999,... / 1,000 by a hair: 111 * 111 * 50 is 616,050
        SlackRace y = new SlackRace();
        y.terms(2, 1);
        y.terms(1, 50);
        y.terms(4, 111);
        is("13 616.05", y.flow(1), 111 - 616);
        // 333 * 333 * 37 / 1,000 is 4,102.893: not 4,107 as by 999
        y.terms(1, 37);
        y.terms(4, 333);
        y.sea(0, 0, 500);
        y.terms(0, 8);
        is("13 4,000 less 4,102", y.flow(1), 333 - 102);
    }

    /** "in the next one more by the GAIN of this one": by the LEVELS and FLOW of this one. */
    private static void gainIsOfThisMinute() {
        SlackRace x = new SlackRace();
        x.moon(0, 0, 0, 500);
        x.moon(0, 0, 1, 60);
        x.terms(0, 1);
        x.terms(1, 0);
        x.terms(2, 1);
        is("13 level 0 at 0", x.flow(1), 0);
        is("13 by the level at 1", x.flow(2), x.level(0, 1));
        is("13 by the level at 2", x.flow(3), x.level(0, 1) + x.level(0, 2));
        Due.rule(x, "gains flow + 1");
        is("13 doubled and one", x.flow(5), 31);
    }

    // ---- SLACKS

    private static SlackRace steady(int flow, int still) {
        SlackRace x = new SlackRace();
        Due.rule(x, "gains 0");
        x.terms(4, flow);
        x.terms(3, still);
        return x;
    }

    /** "in which |FLOW| is at most STILL". */
    private static void stillIsSlack() {
        int[] stills = {0, 1, 50, 499, 500};
        for (int still : stills) {
            for (int side = -1; side <= 1; side += 2) {
                is("16 just still", steady(side * still, still).slack(NONE, 0), 1);
                is("16 all day", steady(side * still, still).slack(0, 1), 1440);
                is("16 just not", steady(side * (still + 1), still).slack(NONE, 0), 0);
                is("16 there is none", steady(side * (still + 1), still).slack(0, 0), NOTHING);
            }
        }
        // from above STILL to below - STILL at once there is none
        SlackRace x = steady(51, 50);
        Due.rule(x, "gains 0;gains 0-102 if minute = 5");
        is("16 no MINUTE of it is still", x.slack(NONE, 0), 0);
        Due.rule(x, "gains 0;gains 0-1 if minute = 5;gains 0-101 if minute = 6");
        is("16 one MINUTE", x.slack(NONE, 0), 1);
        is("16 one MINUTE", x.slack(0, 0), 6);
        is("16 one MINUTE", x.slack(0, 1), 1);
        // from STILL to - STILL it is one row, not two
        Due.rule(x, "gains 0;gains 0-1 if minute = 5;gains 0-100 if minute = 6;"
                + "gains 0-1 if minute = 7");
        is("16 one row through both", x.slack(NONE, 0), 1);
        is("16 one row through both", x.slack(0, 1), 2);
    }

    private static void slacksAtTheEndsOfTheDay() {
        SlackRace x = steady(0, 0);
        Due.rule(x, "gains 0;gains 9 if minute = 0;gains 0-9 if minute - 1000 = 438");
        is("16 the first and the last MINUTE", x.slack(NONE, 0), 2);
        is("16 the first", x.slack(0, 0), 0);
        is("16 the first", x.slack(0, 1), 1);
        is("16 the last", x.slack(1, 0), 1439);
        is("16 the last", x.slack(1, 1), 1);
        is("16 no third", x.slack(2, 0), NOTHING);
        is("16 no third", x.slack(2, 1), NOTHING);
        is("16 no third", x.slack(2, 2), NOTHING);
        is("16 no third", x.slack(2, 3), NOTHING);
        Due.rule(x, "gains 0;gains 9 if minute = 0;gains 0-9 if minute - 1000 = 430");
        is("16 to the end", x.slack(1, 0), 1431);
        is("16 to the end", x.slack(1, 1), 9);
    }

    private static void asManySlacksAsThereCanBe() {
        SlackRace x = steady(0, 50);
        Due.rule(x, "gains 51 if flow = 0;gains 0-51 if flow = 51");
        is("16 every other MINUTE", x.slack(NONE, 0), 720);
        is("16 the last", x.slack(719, 0), 1438);
        is("16 the last", x.slack(719, 1), 1);
        is("16 beyond", x.slack(720, 0), NOTHING);
        is("17 the last", x.late(719), 0);
        is("17 beyond", x.late(720), NOTHING);
    }

    /** One SLACK, at a MINUTE of up to 1000, in a sea whose top is at MINUTE 0 or later. */
    private static SlackRace slackAt(int minute, int top) {
        SlackRace x = steady(200, 0);
        Due.rule(x, "gains 0;gains 0-200 if minute=" + (minute - 1) + ";gains 200 if minute="
                + minute);
        x.moon(0, 0, 0, 500);
        x.moon(0, 0, 1, 2000);
        x.moon(0, 0, 2, 500 - top);
        x.sea(1, 0, 7);
        return x;
    }

    /** "how many MINUTES ahead of it the LEVEL of END 0 was greatest, of its own and 720 ahead". */
    private static void howLongSinceTheGreatest() {
        // 500 at the top alone, 499 up to 22 behind it
        is("16 it is there", slackAt(100, 0).slack(0, 0), 100);
        is("16 at MINUTE 0", slackAt(100, 0).slack(0, 3), 100);
        is("16 one ahead, at MINUTE 0", slackAt(1, 0).slack(0, 3), 1);
        is("16 one ahead", slackAt(301, 300).slack(0, 3), 1);
        is("16 its own", slackAt(300, 300).slack(0, 3), 0);
        is("16 719 ahead", slackAt(719, 0).slack(0, 3), 719);
        is("16 720 ahead", slackAt(720, 0).slack(0, 3), 720);
        is("16 721 is too far: 22 behind the top", slackAt(721, 0).slack(0, 3), 721 - 22);
        is("16 720 ahead", slackAt(900, 180).slack(0, 3), 720);
        is("16 721 is too far: 22 behind the top", slackAt(900, 179).slack(0, 3), 721 - 22);
        // the top is still to come: its own is the greatest yet, or the latest of alike ones
        is("16 what comes later does not matter", slackAt(300, 500).slack(0, 3), 0);
        is("16 alike at the first of them", slackAt(479, 500).slack(0, 3), 0);
        is("16 alike ones: the latest", slackAt(485, 500).slack(0, 3), 0);
        // of END 0, whatever END 1 has
        SlackRace x = slackAt(500, 300);
        is("16 of END 0", x.slack(0, 3), 200);
        x.moon(1, 0, 0, 500);
        x.moon(1, 0, 1, 400);
        is("16 of END 0 still", x.slack(0, 3), 200);
        is("16 the fall at the first", x.slack(0, 2), x.level(0, 500) - x.level(1, 500));
        // two tops alike: the latest
        x.moon(0, 0, 1, 200);
        x.moon(0, 0, 2, 0);
        is("16 alike tops at 50, 250, 450", x.slack(0, 3), 50);
    }

    /** "later .. than with WIND 0 and GLASS 1013. NOTHING (not there in either, too)." */
    private static void lateThanWithoutWeather() {
        SlackRace x = steady(100, 50);
        String plain = "wind = 0 and glass - 1000 = 13 and turbines = 0";
        Due.rule(x, "gains 0-5;gains 0-10 if " + plain);
        // 10 a MINUTE: still from 5 to 15; 5 a MINUTE: from 10 to 30
        is("17 alike", x.late(0), 0);
        x.terms(9, 1);
        is("17 later by the WIND", x.late(0), 5);
        x.terms(9, 0);
        x.terms(10, 1012);
        is("17 later by the GLASS", x.late(0), 5);
        is("17 no second one", x.late(1), NOTHING);
        is("17 none has the number NONE", x.late(NONE), NOTHING);
        Due.rule(x, "gains 0;gains 0-10 if " + plain);
        is("17 there with plain weather alone", x.slack(NONE, 0), 0);
        is("17 there with plain weather alone", x.late(0), NOTHING);
        Due.rule(x, "gains 0-10;gains 0 if " + plain);
        is("17 there in this weather alone", x.slack(NONE, 0), 1);
        is("17 there in this weather alone", x.late(0), NOTHING);
        // by the LEVEL: 40 * 5 * 8 / 40 is 40 a MINUTE, and not at all without
        SlackRace y = new SlackRace();
        y.terms(1, 0);
        y.terms(4, -100);
        y.sea(0, 0, 50);
        y.sea(0, 2, 5);
        // 50 * 8 / 40 is 10 a MINUTE
        is("17 by the LEVEL, alike", y.late(0), 0);
        y.terms(9, -5);
        // 25 * 8 / 40 is 5 a MINUTE
        is("17 by the LEVEL and WIND", y.late(0), 5);
        y.terms(9, 0);
        y.sea(0, 1, 1);
        y.terms(10, 1038);
        is("17 by the LEVEL and GLASS", y.late(0), 5);
        y.terms(10, 988);
        // 75 * 8 / 40 is 15 a MINUTE: -40 at 4
        is("17 sooner", y.late(0), -1);
        // the flow of the day itself is as it was
        is("13 as it was", y.flow(4), -40);
        is("12 as it was", y.level(0, 0), 75);
    }
}
