import java.util.ArrayList;
import java.util.HashMap;
import java.util.HashSet;
import java.util.List;
import java.util.Map;
import java.util.NoSuchElementException;
import java.util.Set;

/**
 * The document's words once more, as literally as they go and without a thought of speed:
 * what Windsparlour answers is held against this one.
 */
final class Model {
    /** THREE, ROW and FOURS are 0, 1, 2 (open) and 3 (closed), as ofSet counts their hundreds. */
    record Group(int form, int low) {
        int tiles(int kind) {
            if (form == 1) {
                return kind == low || kind == low + 1 || kind == low + 2 ? 1 : 0;
            }
            return kind == low ? (form == 0 ? 3 : 4) : 0;
        }
    }

    record Way(List<Group> sets, int pair) { }

    // found once for each hand, as the runs ask for the same ones over and over
    private static final Map<String, Integer> FAR = new HashMap<>();
    private static final Map<String, Long> WAITS = new HashMap<>();

    final int[] wall = new int[100];
    final int[][] hands = new int[4][25];
    final List<List<Group>> lying = new ArrayList<>();
    final List<List<Integer>> rivers = new ArrayList<>();
    final List<Set<Integer>> discarded = new ArrayList<>();
    final boolean[] called = new boolean[4];
    final int[] points = {250, 250, 250, 250};
    final int[] won = new int[4];
    int front = 40;
    int back = 99;
    int phase = 3;
    int turn = -1;
    int dealer = -1;
    int rounds = 0;
    int pot = 0;
    int fours = 0;
    int lucky = -1;
    int winner = -1;
    int lastDrawn = -1;
    String latest = "";

    Model() {
        for (int p = 0; p < 4; p++) {
            lying.add(new ArrayList<>());
            rivers.add(new ArrayList<>());
            discarded.add(new HashSet<>());
        }
    }

    static void state(boolean holds) {
        if (!holds) {
            throw new IllegalStateException();
        }
    }

    static void argument(boolean holds) {
        if (!holds) {
            throw new IllegalArgumentException();
        }
    }

    static void index(boolean holds) {
        if (!holds) {
            throw new IndexOutOfBoundsException();
        }
    }

    static void player(int player) {
        index(0 <= player && player <= 3);
    }

    static void kind(int kind) {
        argument(0 <= kind && kind <= 24);
    }

    // ---- playing

    int lay(int step, int shift) {
        argument(1 <= step && step <= 99 && step % 2 != 0 && step % 5 != 0 && 0 <= shift && shift <= 99);
        state(phase == 3);
        for (int t = 0; t < 100; t++) {
            wall[t] = (step * t + shift) % 100 / 4;
        }
        for (int p = 0; p < 4; p++) {
            hands[p] = new int[25];
            for (int t = 10 * p; t <= 10 * p + 9; t++) {
                hands[p][wall[t]]++;
            }
            lying.get(p).clear();
            rivers.get(p).clear();
            discarded.get(p).clear();
            called[p] = false;
        }
        front = 40;
        back = 99;
        fours = 0;
        lucky = new int[] {1, 2, 3, 4, 5, 6, 7, 8, 0, 10, 11, 12, 13, 14, 15, 16, 17, 9, 19, 20, 21, 18, 23, 24, 22}[wall[95]];
        dealer = rounds == 0 ? 0 : (dealer == 3 ? 0 : dealer + 1);
        rounds++;
        turn = dealer;
        phase = 0;
        latest = "";
        return dealer;
    }

    int left() {
        return rounds == 0 ? 0 : back - front + 1;
    }

    int draw() {
        state(phase == 0);
        if (left() <= 24) {
            List<Integer> ready = new ArrayList<>();
            List<Integer> others = new ArrayList<>();
            for (int p = 0; p < 4; p++) {
                (waits(p) != 0 ? ready : others).add(p);
            }
            for (int payer : others) {
                for (int taker : ready) {
                    points[payer] -= 10;
                    points[taker] += 10;
                }
            }
            winner = -1;
            phase = 3;
            return -1;
        }
        phase = 1;
        return take(wall[front++]);
    }

    private int take(int kind) {
        hands[turn][kind]++;
        lastDrawn = kind;
        latest = "drew";
        return kind;
    }

    int discard(int kind) {
        kind(kind);
        state(phase == 1);
        state(hands[turn][kind] > 0);
        state(!called[turn] || lastDrawn == kind);
        put(kind);
        return rivers.get(turn).size();
    }

    private void put(int kind) {
        hands[turn][kind]--;
        rivers.get(turn).add(kind);
        discarded.get(turn).add(kind);
        phase = 2;
    }

    int call(int kind) {
        kind(kind);
        state(phase == 1);
        state(ofPlayer(turn, 2) == 0);
        state(!called[turn]);
        state(hands[turn][kind] > 0);
        int[] left = hands[turn].clone();
        left[kind]--;
        state(waits(left, lying.get(turn)) != 0);
        points[turn] -= 10;
        pot += 10;
        called[turn] = true;
        put(kind);
        return points[turn];
    }

    int claim(int player, int what, int low) {
        player(player);
        argument(0 <= what && what <= 2);
        state(phase == 2);
        state(player != turn);
        state(!called[player]);
        int kind = rivers.get(turn).get(rivers.get(turn).size() - 1);
        if (what == 1) {
            state(player == (turn == 3 ? 0 : turn + 1));
            state(0 <= low && low <= 6 || 9 <= low && low <= 15);
            state(low == kind || low + 1 == kind || low + 2 == kind);
            for (int k = low; k < low + 3; k++) {
                state(k == kind || hands[player][k] > 0);
            }
        } else {
            state(hands[player][kind] >= (what == 0 ? 2 : 3));
        }
        if (what == 2) {
            state(fours < 4 && left() > 24);
        }
        rivers.get(turn).remove(rivers.get(turn).size() - 1);
        turn = player;
        phase = 1;
        latest = "claimed";
        hands[player][kind]++;
        lie(player, new Group(what, what == 1 ? low : kind));
        if (what == 2) {
            drawBehind();
        }
        return lying.get(player).size();
    }

    private void lie(int player, Group set) {
        for (int k = 0; k < 25; k++) {
            hands[player][k] -= set.tiles(k);
        }
        lying.get(player).add(set);
    }

    private int drawBehind() {
        fours++;
        return take(wall[back--]);
    }

    int four(int kind) {
        kind(kind);
        state(phase == 1);
        state(!called[turn]);
        state(hands[turn][kind] >= 4);
        state(fours < 4 && left() > 24);
        lie(turn, new Group(3, kind));
        return drawBehind();
    }

    int pass() {
        state(phase == 2);
        turn = turn == 3 ? 0 : turn + 1;
        phase = 0;
        return turn;
    }

    int win(int player) {
        player(player);
        int value;
        if (phase == 1) {
            state(player == turn);
            state(latest.equals("drew"));
            state(!ways(hands[player], lying.get(player)).isEmpty());
            value = value(player, hands[player], true);
            for (int p = 0; p < 4; p++) {
                if (p != player) {
                    points[p] -= 4 * value;
                    points[player] += 4 * value;
                }
            }
        } else {
            state(phase == 2);
            state(player != turn);
            int kind = rivers.get(turn).get(rivers.get(turn).size() - 1);
            state((waits(player) & 1L << kind) != 0);
            state(ofPlayer(player, 9) == 0);
            rivers.get(turn).remove(rivers.get(turn).size() - 1);
            hands[player][kind]++;
            value = value(player, hands[player], false);
            points[turn] -= 12 * value;
            points[player] += 12 * value;
        }
        points[player] += pot;
        pot = 0;
        won[player]++;
        winner = player;
        phase = 3;
        return value;
    }

    // ---- how hands part

    /** All ways in which the TILES in hand and the SETS that lie are three SETS and a PAIR. */
    static List<Way> ways(int[] hand, List<Group> sets) {
        List<Way> ways = new ArrayList<>();
        for (int pair = 0; pair < 25; pair++) {
            if (hand[pair] >= 2) {
                int[] rest = hand.clone();
                rest[pair] -= 2;
                partInto(rest, new ArrayList<>(sets), pair, ways);
            }
        }
        return ways;
    }

    private static void partInto(int[] rest, List<Group> sets, int pair, List<Way> ways) {
        int first = 0;
        while (first < 25 && rest[first] == 0) {
            first++;
        }
        if (first == 25) {
            if (sets.size() == 3) {
                ways.add(new Way(List.copyOf(sets), pair));
            }
            return;
        }
        for (Group set : List.of(new Group(0, first), new Group(1, first))) {
            if (isIn(rest, set)) {
                addTo(rest, set, -1);
                sets.add(set);
                partInto(rest, sets, pair, ways);
                sets.remove(sets.size() - 1);
                addTo(rest, set, 1);
            }
        }
    }

    private static boolean isIn(int[] tiles, Group set) {
        if (set.form == 1 && !(set.low < 18 && set.low % 9 < 7)) {
            return false;
        }
        for (int k = 0; k < 25; k++) {
            if (tiles[k] < set.tiles(k)) {
                return false;
            }
        }
        return true;
    }

    private static void addTo(int[] tiles, Group set, int by) {
        for (int k = 0; k < 25; k++) {
            tiles[k] += by * set.tiles(k);
        }
    }

    static long waits(int[] hand, List<Group> sets) {
        return WAITS.computeIfAbsent(key(hand, sets.size()), any -> findWaits(hand, sets));
    }

    private static String key(int[] hand, int sets) {
        StringBuilder key = new StringBuilder().append(sets).append(' ');
        for (int many : hand) {
            key.append(many);
        }
        return key.toString();
    }

    private static long findWaits(int[] hand, List<Group> sets) {
        int size = 3 * sets.size();
        for (int many : hand) {
            size += many;
        }
        long waits = 0;
        for (int k = 0; k < 25 && size == 10; k++) {
            int[] more = hand.clone();
            more[k]++;
            if (!ways(more, sets).isEmpty()) {
                waits += 1L << k;
            }
        }
        return waits;
    }

    static int far(int[] hand, int sets) {
        return FAR.computeIfAbsent(key(hand, sets), any -> far(hand.clone(), 0, sets, 0, 0));
    }

    /** Each TILE of a KIND from k on is in a part, or in none: every way is tried. */
    private static int far(int[] tiles, int from, int s, int u, int h) {
        int k = from;
        while (k < 25 && tiles[k] == 0) {
            k++;
        }
        if (k == 25) {
            return 6 - 2 * s - Math.min(u, 3 - s) - h;
        }
        // all that is left of this kind in none of them
        int kept = tiles[k];
        tiles[k] = 0;
        int least = far(tiles, k + 1, s, u, h);
        tiles[k] = kept;
        int[][] parts = {{k, k, k}, {k, k + 1, k + 2}, {k, k + 1}, {k, k + 2}, {k, k}, {k, k}};
        for (int i = 0; i < parts.length; i++) {
            boolean isSet = i < 2;
            boolean isHead = i == 5;
            if (isSet && s == 3 || isHead && h == 1 || !isSet && !isHead && s + u >= 3) {
                continue;
            }
            if (fits(tiles, parts[i])) {
                for (int tile : parts[i]) {
                    tiles[tile]--;
                }
                least = Math.min(least, far(tiles, k, s + (isSet ? 1 : 0), u + (isSet || isHead ? 0 : 1), h + (isHead ? 1 : 0)));
                for (int tile : parts[i]) {
                    tiles[tile]++;
                }
            }
        }
        return least;
    }

    private static boolean fits(int[] tiles, int[] part) {
        int[] needed = new int[25];
        for (int tile : part) {
            if (tile > 24 || tile != part[0] && (part[0] >= 18 || tile / 9 != part[0] / 9)) {
                return false;
            }
            needed[tile]++;
        }
        for (int k = 0; k < 25; k++) {
            if (tiles[k] < needed[k]) {
                return false;
            }
        }
        return true;
    }

    /** What makes up VALUE, at the best way to part: its sum, and at 1 to 9 what each rule brings. */
    int[] valueParts(int player, int[] hand, boolean alone) {
        int[] best = new int[10];
        for (Way way : ways(hand, lying.get(player))) {
            int[] parts = new int[10];
            parts[1] = called[player] ? 1 : 0;
            parts[2] = alone && ofPlayer(player, 2) == 0 ? 1 : 0;
            List<Integer> tiles = new ArrayList<>(List.of(way.pair, way.pair));
            boolean allSame = true;
            for (Group set : way.sets) {
                for (int k = 0; k < 25; k++) {
                    for (int i = 0; i < set.tiles(k); i++) {
                        tiles.add(k);
                    }
                }
                parts[4] += set.form != 1 && set.low >= 22 ? 1 : 0;
                parts[5] += set.form != 1 && set.low == 18 + ofPlayer(player, 7) ? 1 : 0;
                allSame &= set.form != 1;
            }
            boolean noEnds = true;
            Set<Integer> suits = new HashSet<>();
            boolean honours = false;
            for (int tile : tiles) {
                parts[3] += tile == lucky ? 1 : 0;
                noEnds &= tile < 18 && tile % 9 != 0 && tile % 9 != 8;
                honours |= tile >= 18;
                if (tile < 18) {
                    suits.add(tile / 9);
                }
            }
            parts[6] = noEnds ? 1 : 0;
            parts[7] = allSame ? 2 : 0;
            parts[8] = suits.size() == 1 && !honours ? 4 : 0;
            parts[9] = suits.size() == 1 && honours ? 2 : 0;
            int sum = 1;
            for (int i = 1; i <= 9; i++) {
                sum += parts[i];
            }
            parts[0] = Math.min(sum, 12);
            if (parts[0] > best[0]) {
                best = parts;
            }
        }
        return best;
    }

    int value(int player, int[] hand, boolean alone) {
        return valueParts(player, hand, alone)[0];
    }

    // ---- what is asked

    int has(int player, int kind) {
        player(player);
        kind(kind);
        return hands[player][kind];
    }

    int ofPlayer(int player, int what) {
        player(player);
        argument(0 <= what && what <= 9);
        int inHand = 0;
        for (int many : hands[player]) {
            inHand += many;
        }
        int open = 0;
        for (Group set : lying.get(player)) {
            open += set.form != 3 ? 1 : 0;
        }
        boolean own = false;
        for (int kind : discarded.get(player)) {
            own |= (waits(player) & 1L << kind) != 0;
        }
        int wind = -1;
        for (int i = 0; rounds > 0 && i < 4; i++) {
            if ((dealer + i) % 4 == player) {
                wind = i;
            }
        }
        return switch (what) {
            case 0 -> points[player];
            case 1 -> lying.get(player).size();
            case 2 -> open;
            case 3 -> inHand;
            case 4 -> rivers.get(player).size();
            case 5 -> called[player] ? 1 : 0;
            case 6 -> far(hands[player], lying.get(player).size());
            case 7 -> wind;
            case 8 -> won[player];
            case 9 -> own ? 1 : 0;
            default -> throw new NoSuchElementException();
        };
    }

    int ofSet(int player, int set) {
        player(player);
        index(0 <= set && set < lying.get(player).size());
        return lying.get(player).get(set).low + 100 * lying.get(player).get(set).form;
    }

    int river(int player, int place) {
        player(player);
        index(0 <= place && place < rivers.get(player).size());
        return rivers.get(player).get(place);
    }

    long waits(int player) {
        player(player);
        return waits(hands[player], lying.get(player));
    }

    int seen(int kind) {
        kind(kind);
        int seen = 0;
        for (int p = 0; p < 4; p++) {
            for (Group set : lying.get(p)) {
                seen += set.tiles(kind);
            }
            for (int tile : rivers.get(p)) {
                seen += tile == kind ? 1 : 0;
            }
        }
        return seen;
    }

    String hand(int player) {
        player(player);
        String[] names = "1 2 3 4 5 6 7 8 9 1 2 3 4 5 6 7 8 9 E S W N R G H".split(" ");
        String dots = "";
        String bamboos = "";
        String honours = "";
        for (int k = 0; k < 25; k++) {
            String tiles = names[k].repeat(hands[player][k]);
            if (k < 9) {
                dots += tiles;
            } else if (k < 18) {
                bamboos += tiles;
            } else {
                honours += tiles;
            }
        }
        return (dots.isEmpty() ? "" : dots + "d") + (bamboos.isEmpty() ? "" : bamboos + "b") + honours;
    }

    int many(int what) {
        argument(0 <= what && what <= 9);
        return switch (what) {
            case 0 -> phase;
            case 1 -> phase == 3 ? -1 : turn;
            case 2 -> left();
            case 3 -> lucky;
            case 4 -> phase == 2 ? rivers.get(turn).get(rivers.get(turn).size() - 1) : -1;
            case 5 -> fours;
            case 6 -> pot;
            case 7 -> rounds;
            case 8 -> dealer;
            case 9 -> winner;
            default -> throw new NoSuchElementException();
        };
    }

    double lead(int player) {
        player(player);
        return points[player] - (points[0] + points[1] + points[2] + points[3]) / 4.0;
    }

    // ---- what would be

    int worth(int player, int kind) {
        player(player);
        kind(kind);
        if ((waits(player) & 1L << kind) == 0) {
            return -1;
        }
        int[] more = hands[player].clone();
        more[kind]++;
        return value(player, more, false);
    }

    int best() {
        int best = -1;
        int[] bestRank = null;
        for (int k = 0; phase == 1 && k < 25; k++) {
            if (hands[turn][k] > 0) {
                int[] less = hands[turn].clone();
                less[k]--;
                int[] rank = {far(less, lying.get(turn).size()), hands[turn][k]};
                if (best == -1 || rank[0] < bestRank[0] || rank[0] == bestRank[0] && rank[1] < bestRank[1]) {
                    best = k;
                    bestRank = rank;
                }
            }
        }
        return best;
    }

    boolean isSafe(int player, int kind) {
        player(player);
        kind(kind);
        boolean safe = true;
        for (int p = 0; p < 4; p++) {
            safe &= p == player || !called[p] || discarded.get(p).contains(kind);
        }
        return safe;
    }

    int outs(int player) {
        player(player);
        if (ofPlayer(player, 3) + 3 * lying.get(player).size() == 11) {
            return 0;
        }
        int outs = 0;
        for (int k = 0; k < 25; k++) {
            int[] more = hands[player].clone();
            more[k]++;
            if (far(more, lying.get(player).size()) < ofPlayer(player, 6)) {
                outs += Math.max(0, 4 - hands[player][k] - seen(k));
            }
        }
        return outs;
    }

    long digest() {
        List<Long> all = new ArrayList<>();
        for (int what = 0; what <= 9; what++) {
            all.add((long) many(what));
        }
        for (int p = 0; p < 4; p++) {
            for (int what = 0; what <= 9; what++) {
                all.add((long) ofPlayer(p, what));
            }
            for (int k = 0; k < 25; k++) {
                all.add((long) has(p, k));
            }
            for (int set = 0; set < lying.get(p).size(); set++) {
                all.add((long) ofSet(p, set));
            }
            for (int place = 0; place < rivers.get(p).size(); place++) {
                all.add((long) river(p, place));
            }
            all.add(waits(p));
            all.add((long) (4 * lead(p)));
        }
        all.add((long) best());
        long d = 58317;
        for (long v : all) {
            d = d * 31 + v;
        }
        return d;
    }
}
