import java.util.Map;
import java.util.TreeMap;
import java.util.concurrent.Callable;

/**
 * Runs of calls, each of which is answered by Windsparlour and by the Model: the same answer or the
 * same exception is due, and the same digest behind it. At the end every situation that the
 * document tells of must have come up.
 */
final class RandomRunsTest {
    private static final int RUNS = 1000;
    // what an object answers behind its 512th call is free; no step of a run takes more than 60 calls
    private static final int CALLS = 512;
    private static final int MOST_AT_ONCE = 60;
    private static final int[] STEPS = {1, 1, 3, 7, 9, 99, 33, 51, 49, 67, 17, 23, 41, 81};

    private static final Map<String, Integer> came = new TreeMap<>();
    private static int wrong = 0;

    private long seed;
    private Windsparlour due;
    private Model model;
    private int run;
    private int left;

    public static void main(String[] args) {
        for (int run = 1; run <= RUNS && wrong < 20; run++) {
            new RandomRunsTest().play(run);
        }
        for (String situation : SITUATIONS) {
            if (came.getOrDefault(situation, 0) < 3) {
                wrong++;
                System.out.println("came up too seldom: " + situation + ", " + came.getOrDefault(situation, 0));
            }
        }
        if (args.length > 0) {
            System.out.println(came);
        }
        System.out.println(wrong == 0 ? "all random runs are as due" : wrong + " things are not as due");
        if (wrong != 0) {
            System.exit(1);
        }
    }

    private static final String[] SITUATIONS = {
        "win alone", "win by discard", "win alone behind a closed four", "win alone behind a claimed four",
        "win after a call", "win with the pot of others", "win as the wall is short", "nobody can draw",
        "nobody can draw, 1 ready", "nobody can draw, 2 ready", "nobody can draw, 3 ready",
        "claimed three", "claimed row", "claimed four", "closed four", "closed four behind a claim",
        "four fours", "no fifth four", "no four as nobody can draw", "no win as an own discard is waited for",
        "no win alone behind a claim", "called may not claim", "called may not discard another",
        "called may not make a four", "no call with an open set", "call with a closed four", "call of another kind than was drawn",
        "waits for a kind that is used up", "three sets lie",
        "value 1", "value 2", "value 3", "value 4", "value 5", "value 6", "value 7", "value 8", "value 9", "value 10", "value 11", "value 12", "value over 12",
        "value by a call", "value alone", "value by the lucky kind", "value by a dragon", "value by two dragons", "value by the own wind",
        "value without ends", "value of threes", "value of one suit", "value of a suit and honours",
        "row by a player who is not next", "points below 0", "round 6", "lucky four"
    };

    private static void note(String situation, boolean holds) {
        if (holds) {
            came.merge(situation, 1, Integer::sum);
        }
    }

    private int random(int below) {
        seed = seed * 6364136223846793005L + 1442695040888963407L;
        return (int) Long.remainderUnsigned(seed >>> 20, below);
    }

    private boolean chance(int percent) {
        return random(100) < percent;
    }

    private int player() {
        return chance(3) ? new int[] {-1, 4, Integer.MIN_VALUE, Integer.MAX_VALUE}[random(4)] : random(4);
    }

    private int kind() {
        return chance(3) ? new int[] {-1, 25, Integer.MIN_VALUE, Integer.MAX_VALUE, 64, 89}[random(6)] : random(25);
    }

    private int what(int last) {
        return chance(3) ? new int[] {-1, last + 1, Integer.MIN_VALUE, Integer.MAX_VALUE}[random(4)] : random(last + 1);
    }

    private static Object answer(Callable<Object> call) {
        try {
            return call.call();
        } catch (Exception e) {
            return "throws " + e.getClass().getSimpleName();
        }
    }

    private Object both(String call, Callable<Object> got, Callable<Object> want) {
        left--;
        Object wanted = answer(want);
        same(call, answer(got), wanted);
        return wanted;
    }

    private void same(String call, Object got, Object want) {
        if (!want.equals(got)) {
            wrong++;
            System.out.println("run " + run + ", call " + (CALLS - left) + ": " + call + " answered " + got + ", due is " + want);
        }
    }

    private static boolean isNumber(Object answer) {
        return answer instanceof Integer;
    }

    private void play(int number) {
        run = number;
        seed = number * 7919L;
        due = new Windsparlour();
        model = new Model();
        left = CALLS;
        int sharpness = run % 4 == 0 ? random(40) : 40 + random(60);
        while (left >= MOST_AT_ONCE && wrong < 20) {
            if (chance(12)) {
                ask();
            } else if (chance(3)) {
                anyMove();
            } else {
                move(sharpness);
            }
            note("points below 0", model.points[0] < 0 || model.points[1] < 0 || model.points[2] < 0 || model.points[3] < 0);
            note("round 6", model.rounds >= 6);
            both("digest()", due::digest, model::digest);
        }
    }

    private void move(int sharpness) {
        switch (model.phase) {
            case 0 -> draw();
            case 1 -> inTurn(sharpness);
            case 2 -> behindDiscard(sharpness);
            // a step of 1 gives rich hands: much of value, and many fours
            default -> lay(run % 3 == 0 ? 1 : chance(70) ? STEPS[random(STEPS.length)] : random(102) - 1, chance(97) ? random(100) : random(300) - 100);
        }
    }

    private void inTurn(int sharpness) {
        int turn = model.turn;
        if (chance(sharpness) && isNumber(win(turn))) {
            return;
        }
        for (int k = 0; k < 25; k++) {
            if (model.hands[turn][k] == 4 && chance(fourEagerness()) && isNumber(four(k))) {
                return;
            }
        }
        int best = model.best();
        if (chance(60) && model.ofPlayer(turn, 6) <= 0 && isNumber(call(chance(70) ? best : inHand(turn)))) {
            return;
        }
        discard(model.called[turn] && chance(80) ? model.lastDrawn : chance(sharpness) ? best : inHand(turn));
    }

    /** Some runs keep their fours back until nobody can draw. */
    private int fourEagerness() {
        return model.left() <= 24 ? 100 : run % 4 == 0 ? 0 : 60;
    }

    private int inHand(int player) {
        int kind = random(25);
        for (int i = 0; i < 25 && model.hands[player][kind] == 0; i++) {
            kind = (kind + 1) % 25;
        }
        return kind;
    }

    private void behindDiscard(int sharpness) {
        int kind = model.many(4);
        for (int p = 0; p < 4; p++) {
            if (chance(sharpness) && model.worth(p, kind) != -1 && isNumber(win(p))) {
                return;
            }
        }
        for (int p = 0; p < 4; p++) {
            if (model.hands[p][kind] >= 3 && chance(fourEagerness()) && isNumber(claim(p, 2, random(25)))) {
                return;
            }
            if (model.hands[p][kind] >= 2 && chance(run % 4 == 0 ? 10 : 45) && isNumber(claim(p, 0, random(25)))) {
                return;
            }
        }
        for (int low = kind - 2; low <= kind; low++) {
            int next = (model.turn + 1) % 4;
            if (chance(20) && isNumber(claim(chance(90) ? next : random(4), 1, low))) {
                return;
            }
        }
        both("pass()", due::pass, model::pass);
    }

    private void anyMove() {
        switch (random(8)) {
            case 0 -> lay(STEPS[random(STEPS.length)], what(99));
            case 1 -> draw();
            case 2 -> discard(kind());
            case 3 -> call(kind());
            case 4 -> claim(player(), what(2), kind());
            case 5 -> four(kind());
            case 6 -> both("pass()", due::pass, model::pass);
            default -> win(player());
        }
    }

    private void lay(int step, int shift) {
        both("lay(" + step + ", " + shift + ")", () -> due.lay(step, shift), () -> model.lay(step, shift));
    }

    private void draw() {
        boolean over = model.phase == 0 && model.left() <= 24;
        int ready = 0;
        for (int p = 0; p < 4; p++) {
            ready += model.waits(p) != 0 ? 1 : 0;
            for (int k = 0; k < 25; k++) {
                note("waits for a kind that is used up", (model.waits(p) & 1L << k) != 0 && model.hands[p][k] + model.seen(k) == 4);
            }
        }
        note("nobody can draw", over);
        note("nobody can draw, " + ready + " ready", over);
        both("draw()", due::draw, model::draw);
    }

    private void discard(int kind) {
        note("called may not discard another", model.phase == 1 && model.called[model.turn] && kind != model.lastDrawn
            && 0 <= kind && kind < 25 && model.hands[model.turn][kind] > 0);
        both("discard(" + kind + ")", () -> due.discard(kind), () -> model.discard(kind));
    }

    private Object call(int kind) {
        boolean asTurn = model.phase == 1;
        int turn = model.turn;
        int drawn = model.lastDrawn;
        Object got = both("call(" + kind + ")", () -> due.call(kind), () -> model.call(kind));
        note("no call with an open set", asTurn && !isNumber(got) && model.ofPlayer(turn, 2) > 0 && model.ofPlayer(turn, 6) <= 0);
        note("call with a closed four", isNumber(got) && model.ofPlayer(turn, 1) > 0);
        note("call of another kind than was drawn", isNumber(got) && kind != drawn);
        return got;
    }

    private Object claim(int player, int what, int low) {
        int tile = model.many(4);
        boolean could = model.phase == 2 && 0 <= player && player < 4 && player != model.turn;
        int held = could ? model.hands[player][tile] : 0;
        boolean barred = could && model.called[player];
        boolean next = could && player == (model.turn + 1) % 4;
        Object got = both("claim(" + player + ", " + what + ", " + low + ")",
            () -> due.claim(player, what, low), () -> model.claim(player, what, low));
        if (isNumber(got)) {
            note(what == 0 ? "claimed three" : what == 1 ? "claimed row" : "claimed four", true);
            note("four fours", what == 2 && model.fours == 4);
            note("three sets lie", model.lying.get(player).size() == 3);
        } else {
            note("called may not claim", barred && (held == 2 && what == 0 || held == 3 && what != 1));
            note("no fifth four", held == 3 && what == 2 && !barred && model.fours == 4);
            note("no four as nobody can draw", held == 3 && what == 2 && !barred && model.fours < 4);
            note("row by a player who is not next", could && !barred && !next && what == 1 && tile < 16 && low == tile
                && tile % 9 < 7 && model.hands[player][tile + 1] > 0 && model.hands[player][tile + 2] > 0);
        }
        return got;
    }

    private Object four(int kind) {
        boolean could = model.phase == 1 && 0 <= kind && kind < 25 && model.hands[model.turn][kind] == 4;
        boolean claimed = model.latest.equals("claimed");
        Object got = both("four(" + kind + ")", () -> due.four(kind), () -> model.four(kind));
        note("closed four", isNumber(got));
        note("closed four behind a claim", isNumber(got) && claimed);
        note("four fours", isNumber(got) && model.fours == 4);
        note("called may not make a four", could && model.called[model.turn]);
        note("no fifth four", could && !isNumber(got) && !model.called[model.turn] && model.fours == 4);
        note("no four as nobody can draw", could && !isNumber(got) && !model.called[model.turn] && model.fours < 4);
        return got;
    }

    private Object win(int player) {
        int phase = model.phase;
        boolean there = 0 <= player && player < 4;
        int tile = model.many(4);
        int pot = model.pot;
        boolean own = there && phase == 2 && player != model.turn && model.worth(player, tile) != -1 && model.ofPlayer(player, 9) == 1;
        boolean claimed = there && phase == 1 && player == model.turn && model.latest.equals("claimed") && model.ofPlayer(player, 6) == -1;
        Object got = both("win(" + player + ")", () -> due.win(player), () -> model.win(player));
        note("no win as an own discard is waited for", own && !isNumber(got));
        note("no win alone behind a claim", claimed && !isNumber(got));
        if (isNumber(got)) {
            note(phase == 1 ? "win alone" : "win by discard", true);
            int lies = model.lying.get(player).size();
            int form = lies == 0 ? -1 : model.lying.get(player).get(lies - 1).form();
            note("win alone behind a closed four", phase == 1 && form == 3);
            note("win alone behind a claimed four", phase == 1 && form == 2);
            note("win after a call", model.called[player]);
            note("win with the pot of others", pot > (model.called[player] ? 10 : 0));
            note("win as the wall is short", model.left() == 24);
            noteValue(player, model.hands[player], phase == 1);
        }
        return got;
    }

    private void noteValue(int player, int[] hand, boolean alone) {
        int[] parts = model.valueParts(player, hand, alone);
        int sum = 1;
        String[] names = {"", "by a call", "alone", "by the lucky kind", "by a dragon", "by the own wind",
            "without ends", "of threes", "of one suit", "of a suit and honours"};
        for (int i = 1; i <= 9; i++) {
            sum += parts[i];
            note("value " + names[i], parts[i] > 0);
        }
        note("value by two dragons", parts[4] > 1);
        note("value over 12", sum > 12);
        note("value " + parts[0], true);
        for (Model.Group set : model.lying.get(player)) {
            note("lucky four", set.form() >= 2 && set.low() == model.lucky);
        }
    }

    private void ask() {
        int p = player();
        int k = kind();
        int w = what(9);
        int at = chance(10) ? what(9) : random(4);
        switch (random(12)) {
            case 0 -> both("has(" + p + ", " + k + ")", () -> due.has(p, k), () -> model.has(p, k));
            case 1 -> both("ofPlayer(" + p + ", " + w + ")", () -> due.ofPlayer(p, w), () -> model.ofPlayer(p, w));
            case 2 -> both("ofSet(" + p + ", " + at + ")", () -> due.ofSet(p, at), () -> model.ofSet(p, at));
            case 3 -> both("river(" + p + ", " + at + ")", () -> due.river(p, at), () -> model.river(p, at));
            case 4 -> both("waits(" + p + ")", () -> due.waits(p), () -> model.waits(p));
            case 5 -> both("seen(" + k + ")", () -> due.seen(k), () -> model.seen(k));
            case 6 -> both("hand(" + p + ")", () -> due.hand(p), () -> model.hand(p));
            case 7 -> both("many(" + w + ")", () -> due.many(w), () -> model.many(w));
            case 8 -> both("lead(" + p + ")", () -> due.lead(p), () -> model.lead(p));
            case 9 -> askOfOne(random(4));
            case 10 -> both("isSafe(" + p + ", " + k + ")", () -> due.isSafe(p, k), () -> model.isSafe(p, k));
            default -> both("outs(" + p + ")", () -> due.outs(p), () -> model.outs(p));
        }
    }

    /** worth() and isSafe() of each KIND for one PLAYER, and what else digest() does not hold. */
    private void askOfOne(int player) {
        for (int k = 0; k < 25; k++) {
            int kind = k;
            both("worth(" + player + ", " + k + ")", () -> due.worth(player, kind), () -> model.worth(player, kind));
            if (model.worth(player, kind) != -1) {
                int[] more = model.hands[player].clone();
                more[kind]++;
                noteValue(player, more, false);
            }
            both("isSafe(" + player + ", " + k + ")", () -> due.isSafe(player, kind), () -> model.isSafe(player, kind));
        }
        both("hand(" + player + ")", () -> due.hand(player), () -> model.hand(player));
        both("worth(-1, 25)", () -> due.worth(-1, 25), () -> model.worth(-1, 25));
    }
}
