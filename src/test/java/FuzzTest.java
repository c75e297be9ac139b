import java.util.ArrayList;
import java.util.List;
import java.util.Random;

/** Random runs of calls, with seeds that are told here, on SlackRace and on PlainModel at once. */
public final class FuzzTest {
    private static final int[] WILD = {-1, -2, 6, 50, 51, 52, 143, 144, 1439, 1440, -100000, 99999,
        Integer.MAX_VALUE, Integer.MIN_VALUE, 0, 1, 1000000, 1000001};
    /** Each with a status() behind it, and some more for the last of them: 512 in all. */
    private static final int MOST_CALLS = 220;
    private static final String[] WORDS = {"fall", "flow", "minute", "wind", "glass", "kind",
        "turbines"};

    private final Random random;
    private final Due due;
    private final SlackRace x = new SlackRace();
    private final PlainModel y = new PlainModel();
    private final List<String> calls = new ArrayList<>();

    private FuzzTest(long seed, Due due) {
        this.random = new Random(seed);
        this.due = due;
    }

    public static void main(String[] args) {
        int runs = args.length > 1 ? Integer.parseInt(args[1]) : 280;
        int first = args.length > 2 ? Integer.parseInt(args[2]) : 0;
        Due due = new Due();
        for (int seed = first; seed < first + runs && due.allRight(); seed++) {
            FuzzTest run = new FuzzTest(seed, due);
            run.play(40 + seed % 80);
            if (!due.allRight()) {
                System.out.println("seed " + seed + ": " + String.join("; ", run.calls));
            }
        }
        due.close("FuzzTest");
    }

    private void play(int length) {
        start();
        for (int i = 0; i < length && due.allRight() && calls.size() < MOST_CALLS; i++) {
            if (random.nextInt(3) == 0) {
                change();
            } else {
                ask();
            }
        }
    }

    private void same(String call, long got, long want) {
        calls.add(call);
        due.is(call, got, want);
        due.is("status behind " + call, x.status(), y.status);
    }

    /** From least to greatest, now and then something else. */
    private int any(int least, int greatest) {
        int dice = random.nextInt(40);
        if (dice == 0) {
            return WILD[random.nextInt(WILD.length)];
        }
        if (dice == 1) {
            return random.nextBoolean() ? least - 1 : greatest + 1;
        }
        if (dice < 5) {
            return random.nextBoolean() ? least : greatest;
        }
        // beside a wild number there may be nothing to choose from
        return greatest - least < 0 ? least : least + random.nextInt(greatest - least + 1);
    }

    private void start() {
        for (int end = 0; end < 2; end++) {
            for (int moon = 0; moon < random.nextInt(4); moon++) {
                moon(end, moon, 0, random.nextInt(300));
                moon(end, moon, 1, 200 + random.nextInt(900));
                moon(end, moon, 2, random.nextInt(900));
            }
        }
        for (int i = random.nextInt(4); i > 0; i--) {
            terms();
        }
        for (int i = random.nextInt(14); i > 0; i--) {
            kind();
        }
        for (int i = random.nextInt(3); i >= 0; i--) {
            boat();
        }
        if (random.nextInt(3) > 0) {
            law();
            force(0);
        }
    }

    private void moon(int end, int moon, int what, int value) {
        same("moon(" + end + "," + moon + "," + what + "," + value + ")",
                x.moon(end, moon, what, value), y.moon(end, moon, what, value));
    }

    private void terms() {
        int[][] range = {{0, 50}, {0, 50}, {1, 500}, {0, 500}, {-1000, 1000}, {0, 60}, {1, 500},
            {0, 20}, {0, 50}, {-40, 40}, {950, 1050}};
        int what = any(0, 10);
        int[] r = what >= 0 && what <= 10 ? range[what] : range[0];
        int value = any(r[0], r[1]);
        same("terms(" + what + "," + value + ")", x.terms(what, value), y.terms(what, value));
    }

    private void kind() {
        int cell = any(0, 49);
        int kind = any(0, 5);
        same("kind(" + cell + "," + kind + ")", x.kind(cell, kind), y.kind(cell, kind));
    }

    private void boat() {
        int pace = random.nextBoolean() ? any(1, 1500) : any(1, 400);
        int bears = any(0, 99);
        same("boat(" + pace + "," + bears + ")", x.boat(pace, bears), y.boat(pace, bears));
    }

    private void force(int law) {
        same("force(" + law + ")", x.force(law), y.force(law));
    }

    private void type(String text) {
        for (int from = 0; from < text.length(); from += 20) {
            int[] n = new int[5];
            for (int i = 0; i < 20; i++) {
                int b = from + i < text.length() ? text.charAt(from + i) : random.nextInt(256);
                n[i / 4] |= b << (24 - 8 * (i % 4));
            }
            same("feed", x.feed(n[0], n[1], n[2], n[3], n[4]), y.feed(n));
        }
        same("end", x.end(text.length()), y.end(text.length()));
    }

    private void law() {
        String text = random.nextInt(8) == 0 ? wideLaw() : lawText();
        for (int k = random.nextInt(8); k > 5 && !text.isEmpty(); k--) {
            int at = random.nextInt(text.length());
            String put = " ;[]()<>=+-*/0g1001 not if or and gains white fall (([[".substring(
                    random.nextInt(40));
            put = put.substring(0, random.nextInt(Math.min(6, put.length())));
            int cut = Math.min(text.length(), at + random.nextInt(3));
            text = text.substring(0, at) + put + text.substring(cut);
        }
        text = text.length() > 400 ? text.substring(0, 400) : text;
        same("end(0)", x.end(0), y.end(0));
        type(text);
        same("law \"" + text + "\"", x.law(), y.law());
        same("fault()", x.fault(), y.fault);
    }

    private String lawText() {
        StringBuilder s = new StringBuilder();
        int clauses = 1 + random.nextInt(random.nextInt(10) == 0 ? 14 : 4);
        for (int i = 0; i < clauses; i++) {
            s.append(i == 0 ? "" : ";").append(random.nextInt(3) > 0 ? "gains " : "white ");
            s.append(sum(2));
            s.append(random.nextBoolean() ? " if " + test(2) : "");
        }
        return s.toString();
    }

    /** Near the limits of parts and brackets. */
    private String wideLaw() {
        StringBuilder s = new StringBuilder("gains ");
        int open = 6 + random.nextInt(4);
        boolean round = random.nextBoolean();
        s.append(round ? "1 if " : "");
        for (int i = 0; i < open; i++) {
            s.append(round ? "(" : "[");
        }
        s.append("flow");
        for (int i = 44 + random.nextInt(8); i > 0; i--) {
            s.append(random.nextBoolean() ? "+1" : "-2");
        }
        s.append(round ? ">3" : "");
        for (int i = 0; i < open; i++) {
            s.append(round ? ")" : "]");
        }
        return s.toString();
    }

    private String sum(int depth) {
        StringBuilder s = new StringBuilder(part(depth));
        for (int i = random.nextInt(3); i > 0; i--) {
            s.append("+-*/-*".charAt(random.nextInt(6))).append(part(depth));
        }
        return s.toString();
    }

    private String part(int depth) {
        int dice = random.nextInt(6);
        if (dice == 0 && depth > 0) {
            return "[" + sum(depth - 1) + "]";
        }
        return dice < 3 ? String.valueOf(random.nextInt(random.nextBoolean() ? 10 : 1001))
                : WORDS[random.nextInt(WORDS.length)];
    }

    private String test(int depth) {
        int dice = depth > 0 ? random.nextInt(6) : 5;
        switch (dice) {
            case 0:
                return "not " + test(0);
            case 1:
                return "(" + test(depth - 1) + ")";
            case 2:
                return test(depth - 1) + " or " + test(depth - 1);
            case 3:
                return test(depth - 1) + " and " + test(depth - 1);
            default:
                return sum(1) + "<>=".charAt(random.nextInt(3)) + sum(1);
        }
    }

    private void row() {
        StringBuilder s = new StringBuilder();
        for (int i = random.nextInt(70); i > 0; i--) {
            s.append((char) (random.nextInt(8) == 0 ? random.nextInt(256) : random.nextInt(7)));
        }
        same("end(0)", x.end(0), y.end(0));
        type(s.toString());
        same("row", x.row(), y.row());
        same("foul()", x.foul(), y.foul);
    }

    private void change() {
        int a;
        int b;
        int c;
        switch (random.nextInt(16)) {
            case 0:
                a = any(0, 1);
                b = any(0, 2);
                c = b == 0 ? any(-500, 500) : b == 1 ? any(0, 3) : any(-5, 5);
                same("sea(" + a + "," + b + "," + c + ")", x.sea(a, b, c), y.sea(a, b, c));
                break;
            case 1:
                a = any(0, 2);
                moon(any(0, 1), any(0, 3), a, a == 0 ? any(0, 500) : any(60, 1999));
                break;
            case 2:
            case 3:
                terms();
                break;
            case 4:
                law();
                break;
            case 5:
                force(any(NONE, 5));
                break;
            case 6:
                kind();
                break;
            case 7:
                row();
                break;
            case 8:
                boat();
                break;
            case 9:
                for (int i = random.nextInt(12); i > 0; i--) {
                    a = any(0, 4);
                    same("move(" + a + ")", x.move(a), y.move(a));
                }
                break;
            case 10:
                same("tear()", x.tear(), y.tear());
                break;
            case 11:
                for (int i = random.nextInt(5); i >= 0; i--) {
                    a = any(0, 1439);
                    b = any(1, 120);
                    c = any(0, random.nextBoolean() ? 2000 : 300);
                    same("ship(" + a + "," + b + "," + c + ")", x.ship(a, b, c), y.ship(a, b, c));
                }
                break;
            case 12:
                for (int i = random.nextInt(6); i >= 0; i--) {
                    castFloat();
                }
                break;
            case 13:
                a = any(0, 1000000);
                same("day(" + a + ")", x.day(a), y.day(a));
                break;
            case 14:
                a = any(0, 1);
                same("image(" + a + ")", x.image(a), y.image(a));
                break;
            default:
                a = any(0, 1);
                same("back(" + a + ")", x.back(a), y.back(a));
                break;
        }
    }

    /** Near a level that could be, so that some pairs agree. */
    private void castFloat() {
        int minute = any(0, 1439);
        int near = y.level(0, minute);
        int level = near == PlainModel.NOTHING ? any(-9999, 9999)
                : near + random.nextInt(41) - 20 - (random.nextInt(9) == 0 ? 9990 : 0);
        same("cast(" + minute + "," + level + ")", x.cast(minute, level), y.cast(minute, level));
    }

    private static final int NONE = -1;

    private void ask() {
        switch (random.nextInt(6)) {
            case 0:
                askWater();
                break;
            case 1:
            case 2:
                askBoats();
                break;
            case 3:
                askShips();
                break;
            case 4:
                askFloats();
                break;
            default:
                askRest();
                break;
        }
    }

    private void askWater() {
        int a = any(0, 49);
        int b = any(0, 1439);
        int c = any(0, 2);
        int d = any(0, 1);
        int e = any(NONE, 4);
        int f = any(0, 3);
        same("level(" + d + "," + b + ")", x.level(d, b), y.level(d, b));
        same("flow(" + b + ")", x.flow(b), y.flow(b));
        same("cell(" + a + "," + b + "," + c + ")", x.cell(a, b, c), y.cell(a, b, c));
        same("slack(" + e + "," + f + ")", x.slack(e, f), y.slack(e, f));
        same("late(" + e + ")", x.late(e), y.late(e));
        same("drawn(" + b + ")", x.drawn(b), y.drawn(b));
    }

    private void askBoats() {
        int boat = any(0, Math.max(0, y.now.boats.size() - 1));
        int step = any(0, 143);
        int from = any(0, 49);
        int to = random.nextInt(3) == 0 ? any(0, 49) : any(Math.max(0, from - 12), Math.min(49, from) + 12);
        String args = "(" + boat + "," + step + "," + from + "," + to + ")";
        int soonest = y.soonest(boat, step, from, to);
        same("soonest" + args, x.soonest(boat, step, from, to), soonest);
        int at = soonest == NONE ? any(0, 143) : any(step, soonest);
        same("way" + args + at, x.way(boat, step, from, to, at), y.way(boat, step, from, to, at));
        same("calmest" + args, x.calmest(boat, step, from, to), y.calmest(boat, step, from, to));
        same("latest" + args, x.latest(boat, from, to, step), y.latest(boat, from, to, step));
        int slip = any(-60, 60);
        same("done" + args + slip, x.done(boat, step, from, slip), y.done(boat, step, from, slip));
        same("margin" + args, x.margin(boat, step, from), y.margin(boat, step, from));
    }

    private void askShips() {
        int i = any(NONE, 6);
        same("order(" + i + ")", x.order(i), y.order(i));
        same("order(-1)", x.order(NONE), y.order(NONE));
        same("begins(" + i + ")", x.begins(i), y.begins(i));
        int n = any(0, 20);
        same("taken(" + n + ")", x.taken(n), y.taken(n));
        int what = any(0, 1);
        int minute = any(0, 1439);
        if (random.nextInt(3) == 0) {
            same("most(" + what + "," + minute + ")", x.most(what, minute), y.most(what, minute));
        }
    }

    private void askFloats() {
        int moon = any(0, 3);
        int what = any(0, 5);
        same("agree(" + moon + "," + what + ")", x.agree(moon, what), y.agree(moon, what));
        same("tells(" + moon + ")", x.tells(moon), y.tells(moon));
        int a = any(0, random.nextBoolean() ? 1439 : 300);
        int b = any(0, random.nextBoolean() ? 1439 : 600);
        same("right(" + a + "," + b + ")", x.right(a, b), y.right(a, b));
        int width = any(0, 720);
        same("mark(" + width + ")", x.mark(width), y.mark(width));
    }

    private void askRest() {
        int cell = any(0, 49);
        int step = any(0, 143);
        int n = any(0, 6);
        int where = random.nextInt(3) == 0 ? any(50, 51) : any(Math.max(0, cell - 22), Math.min(49, cell) + 22);
        same("lost(" + cell + "," + step + "," + n + "," + where + ")",
                x.lost(cell, step, n, where), y.lost(cell, step, n, where));
        for (int what = -1; what <= 11; what++) {
            same("count(" + what + ")", x.count(what), y.count(what));
        }
        same("fault()", x.fault(), y.fault);
        same("foul()", x.foul(), y.foul);
        int length = any(0, Math.max(1, x.count(5)));
        same("end(" + length + ")", x.end(length), y.end(length));
    }
}
