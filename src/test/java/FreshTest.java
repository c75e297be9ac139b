import java.util.LinkedHashMap;
import java.util.Map;

/**
 * What was worked out for an earlier answer is never told behind a change: each question is asked
 * first behind each change, of an object that has been asked all there is, and of one that has not.
 */
public final class FreshTest {
    private static final int NONE = SlackRace.NONE;
    private static final Due DUE = new Due();

    private interface Change {
        void make(SlackRace x);
    }

    private interface Question {
        long ask(SlackRace x);
    }

    public static void main(String[] args) {
        Map<String, Change> changes = changes();
        Map<String, Question> questions = questions();
        for (boolean lawful : new boolean[] {false, true}) {
            for (Map.Entry<String, Change> c : changes.entrySet()) {
                int differ = 0;
                for (Map.Entry<String, Question> q : questions.entrySet()) {
                    SlackRace asked = strait(lawful);
                    long before = q.getValue().ask(asked);
                    for (Question other : questions.values()) {
                        other.ask(asked);
                    }
                    c.getValue().make(asked);
                    SlackRace fresh = strait(lawful);
                    c.getValue().make(fresh);
                    long due = q.getValue().ask(fresh);
                    String told = q.getKey() + " behind " + c.getKey() + ", law " + lawful;
                    DUE.is(told, q.getValue().ask(asked), due);
                    DUE.is(told + ", once more", q.getValue().ask(asked), due);
                    differ += before != due ? 1 : 0;
                }
                boolean told = differ > 0 || lawful && WITHOUT_LAW.contains(c.getKey());
                DUE.is(c.getKey() + " changes an answer, law " + lawful, told ? 1 : 0, 1);
            }
        }
        DUE.close("FreshTest");
    }

    /** A LAW that tells all gains has no use for these. */
    private static final java.util.Set<String> WITHOUT_LAW =
            java.util.Set.of("PUSH", "RUB", "MASS", "DRAG");

    private static SlackRace strait(boolean lawful) {
        SlackRace x = new SlackRace();
        x.sea(0, 0, 5);
        x.sea(0, 1, 1);
        x.sea(0, 2, 2);
        x.moon(0, 0, 0, 120);
        x.moon(0, 0, 1, 700);
        x.moon(0, 1, 0, 30);
        x.moon(0, 1, 1, 360);
        x.moon(1, 0, 0, 80);
        x.moon(1, 0, 2, 100);
        x.terms(8, 40);
        x.terms(9, -20);
        x.terms(10, 1000);
        Due.makeLaw(x, "gains [fall - flow / 2] / 8 - turbines;white minute / 40 + kind if wind < 0");
        Due.makeLaw(x, "gains 3 - minute / 200;white flow / 20 + fall / 9");
        x.force(lawful ? 0 : NONE);
        for (int cell = 0; cell < 50; cell++) {
            x.kind(cell, cell % 7 == 3 ? 0 : cell % 5 == 4 ? 2 + cell % 4 : 1);
        }
        x.boat(400, 40);
        x.ship(100, 60, 200);
        x.ship(120, 30, 150);
        for (int minute = 100; minute <= 500; minute += 200) {
            x.cast(minute, x.level(0, minute) + 10);
        }
        x.move(0);
        x.move(1);
        x.day(77);
        x.image(0);
        x.terms(3, 70);
        x.ship(90, 20, 180);
        x.feed(0x02030100, 0x05040302, 0x01010100, 0x02020202, 0x07050505);
        return x;
    }

    private static Map<String, Change> changes() {
        Map<String, Change> all = new LinkedHashMap<>();
        all.put("MEAN", x -> x.sea(0, 0, 60));
        all.put("MEAN of END 1", x -> x.sea(1, 0, 60));
        all.put("ANSWER", x -> x.sea(0, 1, 3));
        all.put("SET", x -> x.sea(1, 2, -5));
        all.put("HEIGHT", x -> x.moon(0, 0, 0, 200));
        all.put("HEIGHT 0", x -> x.moon(0, 0, 0, 0));
        all.put("PERIOD", x -> x.moon(0, 0, 1, 500));
        all.put("PHASE", x -> x.moon(0, 0, 2, 150));
        all.put("HEIGHT of END 1", x -> x.moon(1, 0, 0, 10));
        all.put("HEIGHT of a third", x -> x.moon(0, 2, 0, 90));
        String[] names = {"PUSH", "RUB", "MASS", "STILL", "START", "LEAD", "NEED", "DRAG", "ERROR",
            "WIND", "GLASS"};
        int[] values = {20, 30, 10, 20, 300, 60, 500, 9, 10, 30, 1040};
        for (int what = 0; what < names.length; what++) {
            int w = what;
            all.put(names[what], x -> x.terms(w, values[w]));
        }
        all.put("row", x -> x.row());
        all.put("force", x -> x.force(1));
        all.put("kind", x -> x.kind(22, 5));
        all.put("a wall of ROCK", x -> {
            for (int cell = 3; cell < 50; cell += 10) {
                x.kind(cell, 0);
            }
        });
        all.put("move", x -> x.move(2));
        all.put("tear", x -> x.tear());
        all.put("ship", x -> x.ship(80, 90, 300));
        all.put("cast", x -> x.cast(650, -20));
        all.put("day", x -> x.day(78));
        all.put("back", x -> x.back(0));
        return all;
    }

    private static Map<String, Question> questions() {
        Map<String, Question> all = new LinkedHashMap<>();
        all.put("level(0, 300)", x -> x.level(0, 300));
        all.put("level(1, 300)", x -> x.level(1, 300));
        all.put("flow(700)", x -> x.flow(700));
        all.put("cell(44, 700, 0), an EDDY", x -> x.cell(44, 700, 0));
        all.put("cell(22, 700, 1)", x -> x.cell(22, 700, 1));
        all.put("cell(22, 700, 2)", x -> x.cell(22, 700, 2));
        all.put("slack(NONE, 0)", x -> x.slack(NONE, 0));
        all.put("slack(1, 0)", x -> x.slack(1, 0));
        all.put("slack(1, 1)", x -> x.slack(1, 1));
        all.put("slack(1, 2)", x -> x.slack(1, 2));
        all.put("slack(1, 3)", x -> x.slack(1, 3));
        all.put("late(1)", x -> x.late(1));
        all.put("soonest", x -> x.soonest(0, 20, 20, 27));
        all.put("way", x -> x.way(0, 20, 20, 27, 24));
        all.put("calmest", x -> x.calmest(0, 20, 20, 27));
        all.put("latest", x -> x.latest(0, 20, 27, 100));
        all.put("done", x -> x.done(0, 20, 21, 5));
        all.put("margin", x -> x.margin(0, 20, 21));
        all.put("order(NONE)", x -> x.order(NONE));
        all.put("order(0)", x -> x.order(0));
        all.put("begins(0)", x -> x.begins(0));
        all.put("taken(3)", x -> x.taken(3));
        all.put("taken(7)", x -> x.taken(7));
        all.put("most(0)", x -> x.most(0, 0));
        all.put("most(1)", x -> x.most(1, 700));
        for (int what = 0; what <= 5; what++) {
            int w = what;
            all.put("agree(0, " + what + ")", x -> x.agree(0, w));
        }
        all.put("agree(1, 0)", x -> x.agree(1, 0));
        all.put("tells(0)", x -> x.tells(0));
        all.put("right(50, 90)", x -> x.right(50, 90));
        all.put("mark(40)", x -> x.mark(40));
        all.put("lost", x -> x.lost(21, 20, 4, 32));
        all.put("lost, ASHORE", x -> x.lost(21, 20, 6, 51));
        all.put("drawn(700)", x -> x.drawn(700));
        all.put("count(3)", x -> x.count(3));
        return all;
    }
}
