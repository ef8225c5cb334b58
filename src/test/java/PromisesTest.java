/**
 * Promise by promise: runs of calls that are written out, with the answers that are due by the
 * document. A refused call must throw just what is named, and must change nothing.
 */
final class PromisesTest {
    private static final Class<?> ARGUMENT = IllegalArgumentException.class;
    private static final Class<?> STATE = IllegalStateException.class;
    private static final Class<?> INDEX = IndexOutOfBoundsException.class;
    private static final int[] NO_PLAYERS = {-1, 4, 5, Integer.MIN_VALUE, Integer.MAX_VALUE};
    private static final int[] NO_KINDS = {-1, 25, 64, Integer.MIN_VALUE, Integer.MAX_VALUE};
    private static final int[] NO_WHATS = {-1, 10, Integer.MIN_VALUE, Integer.MAX_VALUE};

    private static int checks = 0;
    private static int wrong = 0;
    private static String part = "";

    private interface Call {
        Object on(Windsparlour w);
    }

    public static void main(String[] args) {
        newObject();
        layRefuses();
        layDeals();
        layFindsTheLuckyKind();
        layGoesOnWithTheNextDealer();
        layClearsTheRound();
        draws();
        drawsTillNobodyCan();
        whatIsPaidAsNobodyCanDraw();
        discards();
        discardsWhenCalled();
        calls();
        callsWithAClosedFour();
        callIsRefused();
        claimsAThree();
        claimsARow();
        claimsAFour();
        claimIsRefused();
        claimsNothingWhenCalled();
        claimsNoFourAsNobodyCanDraw();
        closedFours();
        fourIsRefused();
        noFourAsNobodyCanDraw();
        passes();
        winsAlone();
        winsByADiscard();
        winsThePot();
        winIsRefused();
        noWinAsAnOwnDiscardIsWaitedFor();
        noWinAloneBehindAClaim();
        values();
        valueOfCallsAndFours();
        hasOfPlayerAndOfSet();
        far();
        rivers();
        waits();
        seen();
        hands();
        many();
        lead();
        worth();
        best();
        isSafe();
        outs();
        digest();
        wrongPlayersAndKinds();
        System.out.println(wrong == 0 ? checks + " checks are as due" : wrong + " of " + checks + " checks are not as due");
        if (wrong != 0) {
            System.exit(1);
        }
    }

    // ---- how it is checked

    private static void is(String what, Object got, Object want) {
        checks++;
        if (!want.equals(got)) {
            wrong++;
            System.out.println(part + ": " + what + " answered " + got + ", due is " + want);
        }
    }

    private static void refused(Windsparlour w, String what, Class<?> due, Call call) {
        long before = w.digest();
        Object got;
        try {
            got = call.on(w);
        } catch (RuntimeException e) {
            got = e.getClass();
        }
        is(what, got, due);
        is(what + ", digest behind it", w.digest(), before);
    }

    private static Windsparlour laid(int step, int shift) {
        Windsparlour w = new Windsparlour();
        w.lay(step, shift);
        return w;
    }

    /** Each in turn discards what was drawn, till so many have. */
    private static void turns(Windsparlour w, int many) {
        for (int i = 0; i < many; i++) {
            w.discard(w.draw());
            w.pass();
        }
    }

    private static long setOf(int... kinds) {
        long set = 0;
        for (int kind : kinds) {
            set |= 1L << kind;
        }
        return set;
    }

    private static void points(Windsparlour w, int a, int b, int c, int d) {
        int[] due = {a, b, c, d};
        for (int p = 0; p < 4; p++) {
            is("POINTS of " + p, w.ofPlayer(p, 0), due[p]);
        }
    }

    private static void playerIs(Windsparlour w, int player, int... due) {
        for (int what = 0; what < due.length; what++) {
            is("ofPlayer(" + player + ", " + what + ")", w.ofPlayer(player, what), due[what]);
        }
    }

    private static void manyIs(Windsparlour w, int... due) {
        for (int what = 0; what < due.length; what++) {
            is("many(" + what + ")", w.many(what), due[what]);
        }
    }

    // ---- promise 1

    private static void newObject() {
        part = "new object";
        Windsparlour w = new Windsparlour();
        manyIs(w, 3, -1, 0, -1, -1, 0, 0, 0, -1, -1);
        for (int p = 0; p < 4; p++) {
            int player = p;
            playerIs(w, p, 250, 0, 0, 0, 0, 0, 6, -1, 0, 0);
            is("hand", w.hand(p), "");
            is("waits", w.waits(p), 0L);
            is("lead", w.lead(p), 0.0);
            is("outs", w.outs(p), 0);
            for (int k = 0; k < 25; k++) {
                is("has", w.has(p, k), 0);
                is("worth", w.worth(p, k), -1);
                is("isSafe", w.isSafe(p, k), true);
            }
            refused(w, "ofSet", INDEX, x -> x.ofSet(player, 0));
            refused(w, "river", INDEX, x -> x.river(player, 0));
            refused(w, "win", STATE, x -> x.win(player));
            refused(w, "claim", STATE, x -> x.claim(player, 0, 0));
        }
        for (int k = 0; k < 25; k++) {
            is("seen", w.seen(k), 0);
        }
        is("best", w.best(), -1);
        refused(w, "draw", STATE, x -> x.draw());
        refused(w, "discard", STATE, x -> x.discard(0));
        refused(w, "call", STATE, x -> x.call(0));
        refused(w, "four", STATE, x -> x.four(0));
        refused(w, "pass", STATE, x -> x.pass());
        is("two objects know nothing of each other", laid(1, 0).many(7) + new Windsparlour().many(7), 1);
    }

    // ---- promise 2

    private static void layRefuses() {
        part = "lay";
        Windsparlour w = new Windsparlour();
        for (int step : new int[] {0, -1, -3, 2, 4, 5, 10, 15, 25, 95, 98, 100, 101, 103, Integer.MIN_VALUE, Integer.MAX_VALUE}) {
            refused(w, "lay(" + step + ", 0)", ARGUMENT, x -> x.lay(step, 0));
        }
        for (int shift : new int[] {-1, 100, 101, Integer.MIN_VALUE, Integer.MAX_VALUE}) {
            refused(w, "lay(1, " + shift + ")", ARGUMENT, x -> x.lay(1, shift));
        }
        is("lay(99, 99)", w.lay(99, 99), 0);
        for (int phase = 0; phase < 3; phase++) {
            is("PHASE", w.many(0), phase);
            refused(w, "lay within a round", STATE, x -> x.lay(1, 0));
            refused(w, "lay(2, 0) within a round", ARGUMENT, x -> x.lay(2, 0));
            refused(w, "lay(1, 100) within a round", ARGUMENT, x -> x.lay(1, 100));
            if (phase == 0) {
                w.draw();
            } else if (phase == 1) {
                w.discard(w.best());
            }
        }
        is("lay(1, 99)", laid(1, 99).many(0), 0);
        is("lay(99, 0)", laid(99, 0).many(0), 0);
        is("lay(3, 1)", laid(3, 1).many(0), 0);
    }

    private static void layDeals() {
        part = "lay deals";
        Windsparlour w = new Windsparlour();
        is("lay(3, 7)", w.lay(3, 7), 0);
        is("hand(0)", w.hand(0), "2345567889d");
        is("hand(1)", w.hand(1), "1223455678b");
        is("hand(2)", w.hand(2), "89bESSWNRRG");
        is("hand(3)", w.hand(3), "112344567dH");
        manyIs(w, 0, 0, 60, 24, -1, 0, 0, 1, 0, -1);
        for (int p = 0; p < 4; p++) {
            is("TILES of " + p, w.ofPlayer(p, 3), 10);
            is("wind of " + p, w.ofPlayer(p, 7), p);
        }
        w = laid(1, 0);
        is("hand(0)", w.hand(0), "1111222233d");
        is("hand(1)", w.hand(1), "3344445555d");
        is("hand(2)", w.hand(2), "6666777788d");
        is("hand(3)", w.hand(3), "889999d1111b");
        w = laid(99, 99);
        is("hand(0)", w.hand(0), "RRGGGGHHHH");
        is("hand(3)", w.hand(3), "7777888899b");
    }

    private static void layFindsTheLuckyKind() {
        part = "the lucky kind";
        int[] behind = {1, 2, 3, 4, 5, 6, 7, 8, 0, 10, 11, 12, 13, 14, 15, 16, 17, 9, 19, 20, 21, 18, 23, 24, 22};
        for (int shift = 0; shift < 100; shift++) {
            // a step of 1 lays the number 95 more than the shift at the place 95
            int kind = (shift < 5 ? shift + 95 : shift - 5) / 4;
            is("of lay(1, " + shift + ")", laid(1, shift).many(3), behind[kind]);
        }
        is("of lay(3, 7)", laid(3, 7).many(3), 24);
    }

    /** Four rounds, each of which ends at once by a win, and a fifth one. */
    private static void layGoesOnWithTheNextDealer() {
        part = "dealers";
        Windsparlour w = new Windsparlour();
        is("first lay", w.lay(3, 2), 0);
        w.draw();
        is("win(0)", w.win(0), 6);
        points(w, 322, 226, 226, 226);
        is("who won", w.many(9), 0);
        is("second lay", w.lay(1, 0), 1);
        is("TURN", w.many(1), 1);
        is("who won the last one that is over", w.many(9), 0);
        for (int p = 0; p < 4; p++) {
            is("wind of " + p, w.ofPlayer(p, 7), new int[] {3, 0, 1, 2}[p]);
        }
        is("draw", w.draw(), 10);
        is("the tile is with 1", w.has(1, 10), 1);
        w.discard(4);
        is("win(2)", w.win(2), 6);
        points(w, 322, 154, 298, 226);
        is("third lay", w.lay(1, 0), 2);
        w.draw();
        w.discard(5);
        // 3344445555d and a 6: without ends, one suit
        is("win(1)", w.win(1), 6);
        points(w, 322, 226, 226, 226);
        is("fourth lay", w.lay(1, 6), 3);
        w.draw();
        is("win(3)", w.win(3), 6);
        points(w, 298, 202, 202, 298);
        is("fifth lay", w.lay(7, 0), 0);
        is("ROUNDS", w.many(7), 5);
        is("DEALER", w.many(8), 0);
        for (int p = 0; p < 4; p++) {
            is("ROUNDS won by " + p, w.ofPlayer(p, 8), 1);
            is("wind of " + p, w.ofPlayer(p, 7), p);
        }
    }

    private static void layClearsTheRound() {
        part = "a new round";
        Windsparlour w = laid(1, 0);
        w.draw();
        w.call(10);
        w.pass();
        w.draw();
        w.four(3);
        w.discard(10);
        w.pass();
        turns(w, 33);
        is("TILES left", w.many(2), 24);
        is("nobody draws", w.draw(), -1);
        is("RIVER stays", w.ofPlayer(0, 4), 9);
        is("SET stays", w.ofSet(1, 0), 303);
        is("CALLED stays", w.ofPlayer(0, 5), 1);
        is("lay", w.lay(7, 0), 1);
        manyIs(w, 0, 1, 60, 17, -1, 0, 10, 2, 1, -1);
        for (int p = 0; p < 4; p++) {
            int player = p;
            is("SETS", w.ofPlayer(p, 1), 0);
            is("open SETS", w.ofPlayer(p, 2), 0);
            is("TILES", w.ofPlayer(p, 3), 10);
            is("RIVER", w.ofPlayer(p, 4), 0);
            is("CALLED", w.ofPlayer(p, 5), 0);
            is("own discards", w.ofPlayer(p, 9), 0);
            refused(w, "ofSet", INDEX, x -> x.ofSet(player, 0));
            refused(w, "river", INDEX, x -> x.river(player, 0));
        }
        for (int k = 0; k < 25; k++) {
            is("seen", w.seen(k), 0);
            is("isSafe", w.isSafe(1, k), true);
        }
    }

    // ---- promise 3

    private static void draws() {
        part = "draw";
        Windsparlour w = laid(1, 0);
        int[] due = {10, 10, 10, 10, 11, 11, 11, 11, 12};
        for (int i = 0; i < due.length; i++) {
            is("draw " + i, w.draw(), due[i]);
            is("TILES left", w.many(2), 59 - i);
            is("PHASE", w.many(0), 1);
            is("TURN", w.many(1), i % 4);
            is("in hand", w.ofPlayer(i % 4, 3), 11);
            refused(w, "draw in PHASE 1", STATE, x -> x.draw());
            w.discard(due[i]);
            refused(w, "draw in PHASE 2", STATE, x -> x.draw());
            w.pass();
        }
    }

    private static void drawsTillNobodyCan() {
        part = "draw as nobody can";
        Windsparlour w = laid(1, 0);
        turns(w, 36);
        manyIs(w, 0, 0, 24, 24, -1, 0, 0, 1, 0, -1);
        is("draw", w.draw(), -1);
        manyIs(w, 3, -1, 24, 24, -1, 0, 0, 1, 0, -1);
        // 0, 1 and 2 are READY, 3 is not
        points(w, 260, 260, 260, 220);
        is("hands stay", w.hand(0), "1111222233d");
        is("rivers stay", w.river(3, 8), 18);
        refused(w, "draw again", STATE, x -> x.draw());
        is("waits stay", w.waits(1), setOf(1, 2, 3, 4, 5));
        is("lay", w.lay(3, 7), 1);
    }

    private static void whatIsPaidAsNobodyCanDraw() {
        part = "paid as nobody can draw";
        // step and shift, and whose hands are READY
        int[][] runs = {{7, 0}, {3, 23, 0}, {3, 11, 1, 3}, {1, 0, 0, 1, 2}, {1, 6, 0, 1, 2, 3}};
        int[][] due = {{250, 250, 250, 250}, {280, 240, 240, 240}, {230, 270, 230, 270}, {260, 260, 260, 220}, {250, 250, 250, 250}};
        for (int i = 0; i < runs.length; i++) {
            Windsparlour w = laid(runs[i][0], runs[i][1]);
            turns(w, 36);
            long ready = 0;
            for (int at = 2; at < runs[i].length; at++) {
                ready |= 1L << runs[i][at];
            }
            for (int p = 0; p < 4; p++) {
                is("READY " + p + " of run " + i, w.waits(p) != 0, (ready >> p & 1) == 1);
            }
            is("draw", w.draw(), -1);
            points(w, due[i][0], due[i][1], due[i][2], due[i][3]);
        }
    }

    // ---- promise 4

    private static void discards() {
        part = "discard";
        Windsparlour w = laid(1, 0);
        refused(w, "in PHASE 0", STATE, x -> x.discard(0));
        w.draw();
        for (int kind : NO_KINDS) {
            refused(w, "discard(" + kind + ")", ARGUMENT, x -> x.discard(kind));
        }
        refused(w, "discard of none", STATE, x -> x.discard(3));
        is("discard(0)", w.discard(0), 1);
        manyIs(w, 2, 0, 59, 24, 0);
        is("in hand", w.has(0, 0), 3);
        is("in the RIVER", w.river(0, 0), 0);
        refused(w, "in PHASE 2", STATE, x -> x.discard(1));
        refused(w, "a wrong kind in PHASE 2", ARGUMENT, x -> x.discard(25));
        w.pass();
        turns(w, 3);
        w.draw();
        is("discard(10)", w.discard(10), 2);
        is("the oldest one", w.river(0, 0), 0);
        is("the latest one", w.river(0, 1), 10);
        w.pass();
        w.draw();
        is("discard by 1", w.discard(2), 2);
        turns(w = laid(1, 0), 36);
        w.draw();
        refused(w, "in PHASE 3", STATE, x -> x.discard(0));
    }

    private static void discardsWhenCalled() {
        part = "discard when called";
        Windsparlour w = laid(1, 0);
        w.draw();
        w.call(10);
        w.pass();
        turns(w, 3);
        is("draw", w.draw(), 11);
        for (int kind = 0; kind < 3; kind++) {
            int other = kind;
            refused(w, "discard of another", STATE, x -> x.discard(other));
        }
        refused(w, "a wrong kind", ARGUMENT, x -> x.discard(-1));
        is("discard of what was drawn", w.discard(11), 2);
        w.pass();
        is("draw", w.draw(), 11);
        is("others discard what they want", w.discard(2), 2);
        // what waited in hand ahead of the call may not go
        w = laid(1, 0);
        w.draw();
        w.call(2);
        w.pass();
        turns(w, 3);
        is("draw", w.draw(), 11);
        is("10 is in hand", w.has(0, 10), 1);
        refused(w, "discard of the 10 in hand", STATE, x -> x.discard(10));
        is("discard", w.discard(11), 2);
    }

    // ---- promise 5

    private static void calls() {
        part = "call";
        Windsparlour w = laid(1, 0);
        w.draw();
        is("call(10)", w.call(10), 240);
        points(w, 240, 250, 250, 250);
        manyIs(w, 2, 0, 59, 24, 10, 0, 10, 1, 0, -1);
        playerIs(w, 0, 240, 0, 0, 10, 1, 1, 0, 0, 0, 0);
        is("in the RIVER", w.river(0, 0), 10);
        w.pass();
        w.draw();
        is("call by 1", w.call(10), 240);
        is("POT", w.many(6), 20);
        // 111 222 and 123 besides a bamboo, which it waits for then
        w = laid(1, 0);
        w.draw();
        is("call(2), where 10 was drawn", w.call(2), 240);
        is("waits(0)", w.waits(0), setOf(10));
        is("in the RIVER", w.river(0, 0), 2);
    }

    private static void callsWithAClosedFour() {
        part = "call with a closed four";
        Windsparlour w = laid(1, 0);
        w.draw();
        w.four(0);
        w.four(1);
        is("call(10)", w.call(10), 240);
        is("waits(0)", w.waits(0), setOf(2, 24));
    }

    private static void callIsRefused() {
        part = "call is refused";
        Windsparlour w = laid(1, 0);
        refused(w, "in PHASE 0", STATE, x -> x.call(0));
        w.draw();
        for (int kind : NO_KINDS) {
            refused(w, "call(" + kind + ")", ARGUMENT, x -> x.call(kind));
        }
        refused(w, "has none of it", STATE, x -> x.call(11));
        w.call(10);
        refused(w, "in PHASE 2", STATE, x -> x.call(0));
        refused(w, "a wrong kind in PHASE 2", ARGUMENT, x -> x.call(25));
        w.pass();
        turns(w, 3);
        w.draw();
        refused(w, "has called", STATE, x -> x.call(11));
        // 124689d2467bW is far from being READY
        w = laid(7, 0);
        w.draw();
        for (int kind = 0; kind < 25; kind++) {
            int any = kind;
            refused(w, "not READY behind it", STATE, x -> x.call(any));
        }
        // 1111222233d2b is READY behind the bamboo or a 3, and behind no other discard
        w = laid(1, 0);
        w.draw();
        refused(w, "not READY behind a 1", STATE, x -> x.call(0));
        refused(w, "not READY behind a 2", STATE, x -> x.call(1));
        is("READY behind a 3", w.call(2), 240);
        // 3344445555d and a 3: the THREE that was claimed lies open
        w = laid(1, 0);
        w.draw();
        w.discard(2);
        w.claim(1, 0, 0);
        is("READY behind 4d and 5d", w.best(), 3);
        refused(w, "an open SET", STATE, x -> x.call(3));
        refused(w, "an open SET", STATE, x -> x.call(4));
        turns(w = laid(1, 0), 36);
        w.draw();
        refused(w, "in PHASE 3", STATE, x -> x.call(0));
        // who has won has a TILE too many, and would be READY behind this
        w = laid(3, 2);
        w.draw();
        w.win(0);
        refused(w, "as the ROUND is won", STATE, x -> x.call(5));
        refused(w, "as the ROUND is won", STATE, x -> x.discard(5));
    }

    // ---- promise 6

    private static void claimsAThree() {
        part = "claim of a three";
        Windsparlour w = laid(1, 0);
        w.draw();
        w.discard(2);
        is("claim(1, 0, low)", w.claim(1, 0, Integer.MIN_VALUE), 1);
        manyIs(w, 1, 1, 59, 24, -1, 0);
        playerIs(w, 1, 250, 1, 1, 8, 0, 0, 0, 1, 0, 0);
        is("the RIVER it leaves", w.ofPlayer(0, 4), 0);
        is("ofSet", w.ofSet(1, 0), 2);
        is("hand", w.hand(1), "44445555d");
        is("seen", w.seen(2), 3);
        refused(w, "draw in PHASE 1", STATE, x -> x.draw());
        is("discard", w.discard(4), 1);
        is("pass", w.pass(), 2);
        // by a PLAYER who is not the next one
        w = laid(3, 7);
        w.draw();
        w.discard(3);
        is("claim(3, 0, 24)", w.claim(3, 0, 24), 1);
        is("TURN", w.many(1), 3);
        is("hand", w.hand(3), "1123567dH");
        w.discard(24);
        is("pass", w.pass(), 0);
    }

    private static void claimsARow() {
        part = "claim of a row";
        Windsparlour w = laid(1, 0);
        w.draw();
        w.discard(2);
        for (int low : new int[] {0, 1, 3, -1, 9, 17, 18, 25, 100, Integer.MIN_VALUE, Integer.MAX_VALUE, Integer.MAX_VALUE - 1}) {
            refused(w, "claim(1, 1, " + low + ")", STATE, x -> x.claim(1, 1, low));
        }
        is("claim(1, 1, 2)", w.claim(1, 1, 2), 1);
        is("ofSet", w.ofSet(1, 0), 102);
        is("hand", w.hand(1), "33444555d");
        manyIs(w, 1, 1, 59, 24, -1, 0);
        is("open SETS", w.ofPlayer(1, 2), 1);
        is("the RIVER it leaves", w.ofPlayer(0, 4), 0);
        // 258d23568bSG takes 4 bamboos at each place of a ROW
        String[] left = {"258d568bSG", "258d268bSG", "258d238bSG"};
        for (int low = 10; low <= 12; low++) {
            w = laid(13, 10);
            is("hand", w.hand(1), "258d23568bSG");
            w.draw();
            w.discard(12);
            refused(w, "too low", STATE, x -> x.claim(1, 1, 9));
            refused(w, "too high", STATE, x -> x.claim(1, 1, 13));
            is("claim(1, 1, " + low + ")", w.claim(1, 1, low), 1);
            is("ofSet", w.ofSet(1, 0), 100 + low);
            is("hand", w.hand(1), left[low - 10]);
        }
        // 147d12457bER has no 6 dots, which a ROW of 4 dots would need besides the 5 dots
        w = laid(13, 6);
        is("hand", w.hand(1), "147d12457bER");
        w.draw();
        w.discard(4);
        refused(w, "the last one is wanting", STATE, x -> x.claim(1, 1, 3));
        refused(w, "the first one is wanting", STATE, x -> x.claim(1, 1, 2));
        refused(w, "the next one is wanting", STATE, x -> x.claim(1, 1, 4));
    }

    private static void claimsAFour() {
        part = "claim of a four";
        Windsparlour w = laid(33, 3);
        is("hand(1)", w.hand(1), "8899d888bHHH");
        w.draw();
        w.discard(16);
        is("claim(1, 2, -5)", w.claim(1, 2, -5), 1);
        is("ofSet", w.ofSet(1, 0), 216);
        // the place 99: 33 times 99 and 3 is 3270, and 70 / 4 is 17
        is("hand", w.hand(1), "8899d9bHHH");
        manyIs(w, 1, 1, 58, 10, -1, 1);
        is("open SETS", w.ofPlayer(1, 2), 1);
        is("seen", w.seen(16), 4);
        is("in hand", w.ofPlayer(1, 3), 8);
        is("the RIVER it leaves", w.ofPlayer(0, 4), 0);
        is("discard", w.discard(17), 1);
        is("pass", w.pass(), 2);
        // from the front nothing was drawn by it: the place 41 is 33 times 41 and 3, 1356, 56 / 4
        is("draw", w.draw(), 14);
    }

    private static void claimIsRefused() {
        part = "claim is refused";
        Windsparlour w = laid(1, 0);
        refused(w, "in PHASE 0", STATE, x -> x.claim(1, 0, 0));
        w.draw();
        refused(w, "in PHASE 1", STATE, x -> x.claim(1, 0, 0));
        w.discard(2);
        for (int player : NO_PLAYERS) {
            refused(w, "claim(" + player + ", 0, 0)", INDEX, x -> x.claim(player, 0, 0));
            refused(w, "claim(" + player + ", 3, 0)", INDEX, x -> x.claim(player, 3, 0));
        }
        for (int what : new int[] {-1, 3, Integer.MIN_VALUE, Integer.MAX_VALUE}) {
            refused(w, "claim(1, " + what + ", 0)", ARGUMENT, x -> x.claim(1, what, 0));
            refused(w, "claim(0, " + what + ", 0)", ARGUMENT, x -> x.claim(0, what, 0));
        }
        refused(w, "by who discarded", STATE, x -> x.claim(0, 0, 0));
        refused(w, "a FOUR, with two more only", STATE, x -> x.claim(1, 2, 0));
        refused(w, "a THREE, with none", STATE, x -> x.claim(2, 0, 0));
        w.pass();
        refused(w, "behind pass()", STATE, x -> x.claim(1, 0, 0));
        refused(w, "a wrong what behind pass()", ARGUMENT, x -> x.claim(1, 3, 0));
        // the discard of 0 lies there still as 0 has the TURN again
        turns(w, 3);
        is("TURN", w.many(1), 0);
        is("it lies there", w.river(0, 0), 2);
        refused(w, "a THREE in PHASE 0", STATE, x -> x.claim(1, 0, 0));
        refused(w, "a ROW in PHASE 0", STATE, x -> x.claim(1, 1, 2));
        refused(w, "a win in PHASE 0", STATE, x -> x.win(1));
        w.draw();
        refused(w, "a THREE in PHASE 1", STATE, x -> x.claim(1, 0, 0));
        refused(w, "a ROW in PHASE 1", STATE, x -> x.claim(1, 1, 2));
        refused(w, "a win in PHASE 1", STATE, x -> x.win(1));
        // 8 dots of 3, and 0 is next: 2, who has 6 and 7 dots, is not
        w = laid(1, 0);
        turns(w, 3);
        w.draw();
        w.discard(7);
        refused(w, "a ROW by one who is not next", STATE, x -> x.claim(2, 1, 5));
        is("a THREE by that one", w.claim(2, 0, 5), 1);
        // a THREE with one more only: 3 has 8 bamboos once
        w = laid(33, 3);
        w.draw();
        w.discard(8);
        refused(w, "a THREE with one more", STATE, x -> x.claim(2, 0, 8));
        refused(w, "a FOUR with two more", STATE, x -> x.claim(1, 2, 8));
        is("a THREE with two more", w.claim(1, 0, 8), 1);
        // no ROWS of honours, nor from one suit into what is behind it: the discard, what 1 has, the ROW
        noRow(3, 45, 18, "1dESWNNRGHH", 18);
        noRow(3, 43, 17, "1dESSWNRRGH", 17);
        noRow(3, 7, 8, "1223455678b", 8);
        noRow(7, 4, 8, "13568d1bEWRG", 7);
        // no ROW that is in hand as it is, and that the discard lies below or above
        noRow(3, 7, 3, "1223455678b", 9);
        noRow(3, 76, 19, "2344567789d", 1);
    }

    private static void noRow(int step, int shift, int kind, String hand, int low) {
        Windsparlour w = laid(step, shift);
        is("hand", w.hand(1), hand);
        w.draw();
        w.discard(kind);
        refused(w, "claim(1, 1, " + low + ") by " + hand, STATE, x -> x.claim(1, 1, low));
    }

    private static void claimsNothingWhenCalled() {
        part = "claim when called";
        Windsparlour w = laid(1, 0);
        w.draw();
        w.call(10);
        w.pass();
        w.draw();
        w.discard(2);
        is("two of it", w.has(0, 2), 2);
        refused(w, "a THREE", STATE, x -> x.claim(0, 0, 0));
        is("a win goes", w.win(0), 6);
        // 3344445555d
        w = laid(1, 0);
        turns(w, 1);
        w.draw();
        w.call(10);
        w.pass();
        turns(w, 2);
        w.draw();
        w.discard(2);
        refused(w, "a ROW", STATE, x -> x.claim(1, 1, 2));
        refused(w, "a THREE", STATE, x -> x.claim(1, 0, 2));
        // 8899d888bHHH
        w = laid(33, 3);
        turns(w, 1);
        w.draw();
        is("call by 1", w.call(w.best()), 240);
        w.pass();
        turns(w, 2);
        w.draw();
        w.discard(16);
        is("three of it", w.has(1, 16), 3);
        refused(w, "a FOUR", STATE, x -> x.claim(1, 2, 0));
        refused(w, "a THREE", STATE, x -> x.claim(1, 0, 0));
    }

    private static void claimsNoFourAsNobodyCanDraw() {
        part = "claim of a four as nobody can draw";
        Windsparlour w = laid(1, 1);
        turns(w, 35);
        w.draw();
        is("TILES left", w.many(2), 24);
        w.discard(7);
        is("three of it", w.has(2, 7), 3);
        refused(w, "a FOUR", STATE, x -> x.claim(2, 2, 0));
        is("a THREE goes", w.claim(2, 0, 0), 1);
        w.discard(w.best());
        is("pass", w.pass(), 3);
        is("nobody draws", w.draw(), -1);
    }

    // ---- promise 7

    private static void closedFours() {
        part = "four";
        Windsparlour w = laid(1, 0);
        w.draw();
        is("four(0)", w.four(0), 24);
        manyIs(w, 1, 0, 58, 24, -1, 1);
        playerIs(w, 0, 250, 1, 0, 8, 0);
        is("ofSet", w.ofSet(0, 0), 300);
        is("hand", w.hand(0), "222233d2bH");
        is("seen", w.seen(0), 4);
        is("four(1)", w.four(1), 24);
        is("ofSet", w.ofSet(0, 1), 301);
        is("hand", w.hand(0), "33d2bHH");
        w.discard(10);
        w.pass();
        is("draw from the front", w.draw(), 10);
        is("four by 1", w.four(3), 24);
        is("four by 1", w.four(4), 24);
        is("FOURS", w.many(5), 4);
        is("TILES left", w.many(2), 54);
        w.discard(10);
        w.pass();
        w.draw();
        is("four of it", w.has(2, 5), 4);
        refused(w, "a fifth FOUR", STATE, x -> x.four(5));
        // behind a claim, too; what the FOUR draws is drawn
        w = laid(1, 0);
        w.draw();
        w.discard(2);
        w.claim(1, 0, 0);
        is("four behind a claim", w.four(3), 24);
        is("ofSet, the oldest one", w.ofSet(1, 0), 2);
        is("ofSet, the latest one", w.ofSet(1, 1), 303);
        is("SETS", w.ofPlayer(1, 1), 2);
        is("open ones", w.ofPlayer(1, 2), 1);
        is("hand", w.hand(1), "5555dH");
        is("the next four", w.four(4), 24);
        is("three SETS", w.ofPlayer(1, 1), 3);
        is("COMPLETE by what it drew", w.win(1), 7);
    }

    private static void fourIsRefused() {
        part = "four is refused";
        Windsparlour w = laid(1, 0);
        refused(w, "in PHASE 0", STATE, x -> x.four(0));
        w.draw();
        for (int kind : NO_KINDS) {
            refused(w, "four(" + kind + ")", ARGUMENT, x -> x.four(kind));
        }
        refused(w, "two of it", STATE, x -> x.four(2));
        refused(w, "none of it", STATE, x -> x.four(3));
        w.call(10);
        refused(w, "in PHASE 2", STATE, x -> x.four(0));
        refused(w, "a wrong kind in PHASE 2", ARGUMENT, x -> x.four(25));
        w.pass();
        turns(w, 3);
        w.draw();
        is("four of it", w.has(0, 0), 4);
        refused(w, "who has called", STATE, x -> x.four(0));
        w = laid(33, 3);
        turns(w, 1);
        w.draw();
        is("three of it", w.has(1, 16), 3);
        refused(w, "three of it", STATE, x -> x.four(16));
        turns(w = laid(1, 0), 36);
        w.draw();
        refused(w, "in PHASE 3", STATE, x -> x.four(0));
    }

    private static void noFourAsNobodyCanDraw() {
        part = "four as nobody can draw";
        Windsparlour w = laid(1, 0);
        turns(w, 35);
        w.draw();
        is("TILES left", w.many(2), 24);
        is("four of it", w.has(3, 8), 4);
        refused(w, "four(8)", STATE, x -> x.four(8));
        w = laid(1, 0);
        turns(w, 34);
        w.draw();
        is("TILES left", w.many(2), 25);
        is("four(5)", w.four(5), 24);
        is("TILES left", w.many(2), 24);
        refused(w, "four(6)", STATE, x -> x.four(6));
        w.discard(24);
        w.pass();
        is("nobody draws", w.draw(), -1);
        manyIs(w, 3, -1, 24, 24, -1, 1);
    }

    // ---- promise 8

    private static void passes() {
        part = "pass";
        Windsparlour w = laid(1, 0);
        for (int i = 0; i < 9; i++) {
            refused(w, "in PHASE 0", STATE, x -> x.pass());
            w.draw();
            refused(w, "in PHASE 1", STATE, x -> x.pass());
            w.discard(w.best());
            is("pass", w.pass(), (i + 1) % 4);
            manyIs(w, 0, (i + 1) % 4, 59 - i, 24, -1);
        }
        turns(w, 27);
        w.draw();
        refused(w, "in PHASE 3", STATE, x -> x.pass());
    }

    // ---- promise 9

    private static void winsAlone() {
        part = "win alone";
        Windsparlour w = laid(3, 2);
        is("draw", w.draw(), 5);
        is("hand", w.hand(0), "12334566678d");
        is("FAR", w.ofPlayer(0, 6), -1);
        is("win(0)", w.win(0), 6);
        points(w, 322, 226, 226, 226);
        manyIs(w, 3, -1, 59, 18, -1, 0, 0, 1, 0, 0);
        playerIs(w, 0, 322, 0, 0, 11, 0, 0, -1, 0, 1, 0);
        is("hand stays", w.hand(0), "12334566678d");
        w = laid(1, 25);
        w.draw();
        is("four(7) draws", w.four(7), 6);
        is("hand", w.hand(0), "7777999d8b");
        refused(w, "not COMPLETE", STATE, x -> x.win(0));
    }

    private static void winsByADiscard() {
        part = "win by a discard";
        Windsparlour w = laid(3, 11);
        w.draw();
        w.discard(2);
        is("worth", w.worth(3, 2), 5);
        is("win(3)", w.win(3), 5);
        points(w, 190, 250, 250, 310);
        manyIs(w, 3, -1, 59, 22, -1, 0, 0, 1, 0, 3);
        is("it leaves the RIVER", w.ofPlayer(0, 4), 0);
        is("it is in the hand", w.hand(3), "12233455678d");
        playerIs(w, 3, 310, 0, 0, 11, 0, 0, -1, 3, 1, 0);
        is("seen", w.seen(2), 0);
        is("waits, with a tile too many", w.waits(3), 0L);
        // the same discard of 9 bamboos: who is the next one does not matter
        w = laid(3, 11);
        w.draw();
        w.discard(9);
        refused(w, "waits for another", STATE, x -> x.win(3));
        is("win(1)", w.win(1), 5);
        points(w, 190, 310, 250, 250);
        // by a 1 of dots
        w = laid(3, 75);
        w.draw();
        w.discard(0);
        is("win(1)", w.win(1), 5);
        // what lay in the RIVER ahead of it stays
        w = laid(1, 0);
        turns(w, 4);
        w.draw();
        w.discard(2);
        is("win(1)", w.win(1), 6);
        is("RIVER", w.ofPlayer(0, 4), 1);
        is("RIVER", w.river(0, 0), 10);
    }

    private static void winsThePot() {
        part = "pot";
        Windsparlour w = laid(1, 0);
        w.draw();
        w.call(10);
        w.pass();
        turns(w, 35);
        is("nobody draws", w.draw(), -1);
        points(w, 250, 260, 260, 220);
        is("the POT stays", w.many(6), 10);
        is("lay", w.lay(1, 0), 1);
        is("the POT stays", w.many(6), 10);
        w.draw();
        w.call(10);
        is("POT", w.many(6), 20);
        w.pass();
        w.draw();
        w.discard(5);
        // 3344445555d and a 6: 1, 1 by the call, 1 without ends, 4 of one suit
        is("win(1)", w.win(1), 7);
        points(w, 250, 260 - 10 + 84 + 20, 260 - 84, 220);
        is("POT", w.many(6), 0);
        is("called", w.ofPlayer(1, 5), 1);
    }

    private static void winIsRefused() {
        part = "win is refused";
        Windsparlour w = new Windsparlour();
        for (int player : NO_PLAYERS) {
            refused(w, "win(" + player + ")", INDEX, x -> x.win(player));
        }
        w = laid(3, 11);
        for (int p = 0; p < 4; p++) {
            int player = p;
            refused(w, "in PHASE 0", STATE, x -> x.win(player));
        }
        w.draw();
        for (int p = 0; p < 4; p++) {
            int player = p;
            refused(w, "in PHASE 1", STATE, x -> x.win(player));
        }
        w.discard(2);
        for (int p = 0; p < 3; p++) {
            int player = p;
            refused(w, "in PHASE 2", STATE, x -> x.win(player));
        }
        w.win(3);
        for (int p = 0; p < 4; p++) {
            int player = p;
            refused(w, "in PHASE 3", STATE, x -> x.win(player));
        }
        refused(w, "in PHASE 3", INDEX, x -> x.win(4));
        // COMPLETE, but it is the TURN of another
        w = laid(3, 2);
        w.draw();
        for (int p = 1; p < 4; p++) {
            int player = p;
            refused(w, "whose TURN it is not", STATE, x -> x.win(player));
        }
        // 0 waits for its own discard
        w = laid(3, 7);
        w.draw();
        w.discard(3);
        is("waits(0)", w.waits(0), setOf(0, 3));
        refused(w, "the one who discarded", STATE, x -> x.win(0));
    }

    private static void noWinAsAnOwnDiscardIsWaitedFor() {
        part = "own discards";
        Windsparlour w = laid(3, 7);
        w.draw();
        w.discard(3);
        is("ofPlayer(0, 9)", w.ofPlayer(0, 9), 1);
        // the discard is claimed, and leaves the RIVER
        w.claim(3, 0, 0);
        is("RIVER", w.ofPlayer(0, 4), 0);
        is("ofPlayer(0, 9)", w.ofPlayer(0, 9), 1);
        w.discard(0);
        is("0 waits for it", w.worth(0, 0), 5);
        refused(w, "win(0)", STATE, x -> x.win(0));
        w.pass();
        w.draw();
        is("with a tile too many", w.ofPlayer(0, 9), 0);
        // another one's discards do not bar
        w = laid(1, 0);
        w.draw();
        w.discard(10);
        w.pass();
        w.draw();
        w.discard(2);
        is("ofPlayer(0, 9)", w.ofPlayer(0, 9), 0);
        is("ofPlayer(1, 9)", w.ofPlayer(1, 9), 0);
        is("win(0)", w.win(0), 5);
    }

    private static void noWinAloneBehindAClaim() {
        part = "behind a claim";
        Windsparlour w = laid(33, 3);
        w.draw();
        w.discard(8);
        is("1 waits for it", w.worth(1, 8), 4);
        w.claim(1, 0, 0);
        is("FAR", w.ofPlayer(1, 6), -1);
        refused(w, "win(1)", STATE, x -> x.win(1));
        // a ROW likewise: 33 444 555 345 dots
        w = laid(1, 0);
        w.draw();
        w.discard(2);
        w.claim(1, 1, 2);
        is("FAR", w.ofPlayer(1, 6), -1);
        refused(w, "win(1)", STATE, x -> x.win(1));
    }

    // ---- section 4

    private static void worthIs(int step, int shift, int player, int kind, int value) {
        is("lay(" + step + ", " + shift + "), worth(" + player + ", " + kind + ")", laid(step, shift).worth(player, kind), value);
    }

    private static void values() {
        part = "values";
        // 45667899d12b and 3b, lucky 4b
        worthIs(97, 31, 3, 11, 1);
        // 788889999d1b and 1b, lucky 7d: 7 is a lucky tile
        worthIs(1, 27, 0, 9, 2);
        // 99d11112222b and 3b, lucky 9d: two lucky tiles
        worthIs(1, 34, 0, 11, 3);
        // 1111222d, HHH and 3d: a dragon, and a suit with honours
        worthIs(1, 67, 3, 2, 4);
        // the same with 1d: all are THREES
        worthIs(1, 67, 3, 0, 6);
        // RRRGGGGHHH and G: three dragons, THREES
        worthIs(1, 59, 3, 23, 6);
        // 44567789bEE and E: the DEALER's own wind, which is east; a suit with honours
        worthIs(3, 48, 0, 18, 4);
        // 12334566dHH and 6d: a PAIR of dragons is worth nothing
        worthIs(3, 96, 0, 5, 3);
        // SSSWWWWNNN and W: the north is the own wind of 3, all are THREES; honours are no suit
        worthIs(1, 47, 3, 20, 4);
        // the same of 1, whose own wind is the south
        worthIs(99, 96, 1, 20, 4);
        // SSSWWWWNNN and W of 0, whose own wind is east
        worthIs(99, 86, 0, 20, 3);
        // 3344445555d and 2d: without ends, one suit
        worthIs(1, 0, 1, 1, 6);
        // 1111222233d and 1d: one suit, with ends
        worthIs(1, 0, 0, 0, 5);
        // 1112222333d and 2d are THREES and ROWS: the best way is THREES
        worthIs(1, 1, 0, 1, 7);
        // 6667777888d and 7d: THREES without ends
        worthIs(1, 1, 2, 6, 8);
        // 7778888999d and 7d, four of which are lucky; with 8d they are THREES, and three lucky
        worthIs(1, 25, 0, 6, 9);
        worthIs(1, 25, 0, 7, 10);
        // NNNRRRRGGG and R, five of which would be lucky; two dragons, THREES
        worthIs(99, 94, 0, 22, 10);
        // 2223333444d and 3d: three lucky, without ends, THREES, one suit
        worthIs(1, 5, 0, 2, 11);
        // 222d11199bEE and E: two lucky, THREES, not the own wind of 1
        worthIs(67, 0, 1, 18, 5);
        // 1111222233d and 1d, five of which would be lucky
        worthIs(99, 29, 2, 0, 10);
        // 222d11223bEE and 3b: four kinds are there twice, which are ROWS and one PAIR
        Windsparlour w = laid(67, 98);
        w.draw();
        w.discard(0);
        w.claim(1, 0, 0);
        w.discard(8);
        w.pass();
        w.draw();
        w.discard(18);
        is("hand", w.hand(2), "222d11223bEE");
        is("worth(2, 11)", w.worth(2, 11), 1);
        // 3444555d and 3d would be THREES, but 345d lies
        w = laid(1, 0);
        w.draw();
        w.discard(2);
        w.claim(1, 1, 2);
        w.discard(2);
        is("hand", w.hand(1), "3444555d");
        is("worth(1, 2)", w.worth(1, 2), 6);
        // in the next round that ROW does not lie: WWWNNNNRRR and N are a dragon and THREES
        w = laid(1, 0);
        w.draw();
        w.discard(2);
        w.claim(1, 1, 2);
        w.discard(4);
        w.win(2);
        w.lay(1, 71);
        is("hand", w.hand(1), "WWWNNNNRRR");
        is("worth(1, 21)", w.worth(1, 21), 4);
    }

    private static void valueOfCallsAndFours() {
        part = "value of calls and fours";
        Windsparlour w = laid(1, 25);
        w.draw();
        w.four(7);
        w.call(16);
        is("waits(0)", w.waits(0), setOf(6, 7));
        // 777 999 88 88 and 77: five lucky, THREES and a FOUR, one suit, called: 13, and 12 at most
        is("worth(0, 6)", w.worth(0, 6), 12);
        // 777 789 99 and 8888: four lucky, one suit, called
        is("worth(0, 7)", w.worth(0, 7), 10);
        w = laid(1, 0);
        w.draw();
        w.four(0);
        w.four(1);
        w.discard(10);
        // 33d HH and H with two closed FOURS: three lucky, a dragon, THREES, a suit with honours
        is("worth(0, 24)", w.worth(0, 24), 9);
        is("worth(0, 2)", w.worth(0, 2), 7);
        // alone, but with an open SET
        w = laid(1, 0);
        w.draw();
        w.discard(2);
        w.claim(1, 0, 0);
        w.four(3);
        w.four(4);
        // HH besides 333d 4444d 5555d: two lucky, THREES, a suit with honours; 333d lies open
        is("win(1)", w.win(1), 7);
        points(w, 222, 334, 222, 222);
    }

    // ---- promises 10, 11 and 12

    private static void hasOfPlayerAndOfSet() {
        part = "has, ofPlayer and ofSet";
        Windsparlour w = laid(1, 0);
        int[][] due = {{4, 4, 2}, {0, 0, 2, 4, 4}, {0, 0, 0, 0, 0, 4, 4, 2}, {0, 0, 0, 0, 0, 0, 0, 2, 4, 4}};
        for (int p = 0; p < 4; p++) {
            for (int k = 0; k < 25; k++) {
                is("has(" + p + ", " + k + ")", w.has(p, k), k < due[p].length ? due[p][k] : 0);
            }
        }
        playerIs(w, 0, 250, 0, 0, 10, 0, 0, 0, 0, 0, 0);
        playerIs(w, 3, 250, 0, 0, 10, 0, 0, 1, 3, 0, 0);
        // 1 claims a ROW, later a THREE, and lays a FOUR
        w.draw();
        w.discard(2);
        w.claim(1, 1, 2);
        playerIs(w, 1, 250, 1, 1, 8, 0, 0, -1, 1, 0, 0);
        w.discard(3);
        playerIs(w, 1, 250, 1, 1, 7, 1, 0, 0, 1, 0, 1);
        w.pass();
        turns(w, 2);
        w.draw();
        w.discard(2);
        is("claim", w.claim(1, 0, 0), 2);
        is("hand", w.hand(1), "44555d");
        int[] sets = {102, 2};
        for (int set = 0; set < 2; set++) {
            is("ofSet(1, " + set + ")", w.ofSet(1, set), sets[set]);
        }
        for (int set : new int[] {-1, 2, 3, Integer.MIN_VALUE, Integer.MAX_VALUE}) {
            refused(w, "ofSet(1, " + set + ")", INDEX, x -> x.ofSet(1, set));
        }
        refused(w, "ofSet(0, 0)", INDEX, x -> x.ofSet(0, 0));
    }

    private static void far() {
        part = "far";
        // step, shift, and FAR of each of the four
        int[][] due = {{1, 0, 0, 0, 0, 1}, {7, 0, 3, 4, 4, 3}, {3, 7, 0, 0, 3, 1}, {3, 11, 1, 0, 4, 0}};
        for (int[] run : due) {
            Windsparlour w = laid(run[0], run[1]);
            for (int p = 0; p < 4; p++) {
                is("FAR of " + w.hand(p), w.ofPlayer(p, 6), run[2 + p]);
            }
        }
        Windsparlour w = laid(3, 2);
        w.draw();
        is("of a COMPLETE hand", w.ofPlayer(0, 6), -1);
        // 44445555d with 333d: two SETS, and a TWO or a PAIR besides a PAIR
        w = laid(1, 0);
        w.draw();
        w.discard(2);
        w.claim(1, 0, 0);
        is("of " + w.hand(1) + " with a THREE", w.ofPlayer(1, 6), 0);
    }

    // ---- promise 13

    private static void rivers() {
        part = "river";
        Windsparlour w = laid(7, 0);
        int[] due = new int[12];
        for (int i = 0; i < due.length; i++) {
            due[i] = w.draw();
            w.discard(due[i]);
            w.pass();
        }
        for (int p = 0; p < 4; p++) {
            int player = p;
            for (int place = 0; place < 3; place++) {
                is("river(" + p + ", " + place + ")", w.river(p, place), due[4 * place + p]);
            }
            for (int place : new int[] {-1, 3, 64, Integer.MIN_VALUE, Integer.MAX_VALUE}) {
                refused(w, "river(" + p + ", " + place + ")", INDEX, x -> x.river(player, place));
            }
        }
        is("the first one", due[0], 20);
        w = laid(1, 0);
        w.draw();
        w.discard(2);
        is("ahead of a claim", w.river(0, 0), 2);
        w.claim(1, 0, 0);
        refused(w, "behind it", INDEX, x -> x.river(0, 0));
    }

    // ---- promise 14

    private static void waits() {
        part = "waits";
        Windsparlour w = laid(1, 0);
        // what is used up in one's own hand is waited for as well
        is("waits(0)", w.waits(0), setOf(0, 1, 2, 3));
        is("waits(1)", w.waits(1), setOf(1, 2, 3, 4, 5));
        is("waits(2)", w.waits(2), setOf(4, 5, 6, 7, 8));
        is("waits(3)", w.waits(3), 0L);
        w.draw();
        is("waits(0), with a tile too many", w.waits(0), 0L);
        w.discard(2);
        is("waits(0)", w.waits(0), setOf(10));
        is("waits(1)", w.waits(1), setOf(1, 2, 3, 4, 5));
        w.claim(1, 0, 0);
        is("waits(1), with a tile too many", w.waits(1), 0L);
        w.discard(4);
        // 333d lies: 4444555d waits for 4d (none is left of it) as 444 and 555, for 3d and 6d as 345 and 456
        is("waits(1)", w.waits(1), setOf(2, 3, 5));
        is("highest kind", laid(1, 67).waits(3) < 1L << 25, true);
        is("of the hand HHH and 1111222d", laid(1, 67).waits(3), setOf(0, 2));
    }

    // ---- promise 15

    private static void seen() {
        part = "seen";
        Windsparlour w = laid(1, 0);
        for (int k = 0; k < 25; k++) {
            is("at first", w.seen(k), 0);
        }
        w.draw();
        w.discard(2);
        is("in a RIVER", w.seen(2), 1);
        w.claim(1, 1, 2);
        for (int k = 0; k < 25; k++) {
            is("in a ROW", w.seen(k), k >= 2 && k <= 4 ? 1 : 0);
        }
        w.discard(3);
        w.pass();
        turns(w, 2);
        w.draw();
        w.discard(2);
        is("in a ROW and in a RIVER", w.seen(2), 2);
        w.claim(1, 0, 0);
        is("in a ROW and in a THREE", w.seen(2), 4);
        w = laid(33, 3);
        w.draw();
        w.discard(16);
        w.claim(1, 2, 0);
        is("in an open FOUR", w.seen(16), 4);
        for (int kind : NO_KINDS) {
            refused(w, "seen(" + kind + ")", ARGUMENT, x -> x.seen(kind));
        }
    }

    // ---- promise 16

    private static void hands() {
        part = "hand";
        is("without dots", laid(1, 40).hand(0), "2222333344b");
        is("honours only", laid(99, 94).hand(0), "NNNRRRRGGG");
        is("dots and bamboos", laid(97, 31).hand(3), "45667899d12b");
        is("all letters", laid(3, 7).hand(2), "89bESSWNRRG");
        is("white", laid(7, 0).hand(2), "1d23579bEWRH");
        Windsparlour w = laid(1, 0);
        w.draw();
        is("with what was drawn", w.hand(0), "1111222233d2b");
        w.four(0);
        is("without a FOUR that lies", w.hand(0), "222233d2bH");
    }

    // ---- promise 17

    private static void many() {
        part = "many";
        Windsparlour w = laid(33, 3);
        manyIs(w, 0, 0, 60, 10, -1, 0, 0, 1, 0, -1);
        w.draw();
        manyIs(w, 1, 0, 59, 10, -1, 0, 0, 1, 0, -1);
        w.discard(16);
        manyIs(w, 2, 0, 59, 10, 16, 0, 0, 1, 0, -1);
        w.claim(1, 2, 0);
        manyIs(w, 1, 1, 58, 10, -1, 1, 0, 1, 0, -1);
        w.discard(7);
        manyIs(w, 2, 1, 58, 10, 7, 1, 0, 1, 0, -1);
        w.pass();
        manyIs(w, 0, 2, 58, 10, -1, 1, 0, 1, 0, -1);
        for (int what : NO_WHATS) {
            refused(w, "many(" + what + ")", ARGUMENT, x -> x.many(what));
        }
        // nobody won the round that is over, as somebody won the one ahead of it
        w = laid(3, 2);
        w.draw();
        w.win(0);
        w.lay(7, 0);
        is("who won", w.many(9), 0);
        turns(w, 36);
        is("who won", w.many(9), 0);
        w.draw();
        manyIs(w, 3, -1, 24, 17, -1, 0, 0, 2, 1, -1);
    }

    // ---- promise 18

    private static void lead() {
        part = "lead";
        Windsparlour w = laid(1, 0);
        w.draw();
        w.call(10);
        is("lead(0)", w.lead(0), -7.5);
        is("lead(1)", w.lead(1), 2.5);
        is("lead(3)", w.lead(3), 2.5);
        w = laid(3, 11);
        w.draw();
        w.discard(2);
        w.win(3);
        is("lead(0)", w.lead(0), -60.0);
        is("lead(1)", w.lead(1), 0.0);
        is("lead(3)", w.lead(3), 60.0);
    }

    // ---- promise 19

    private static void worth() {
        part = "worth";
        Windsparlour w = laid(1, 0);
        for (int k = 0; k < 25; k++) {
            is("worth(0, " + k + ")", w.worth(0, k), k > 3 ? -1 : 5);
            is("worth(3, " + k + ")", w.worth(3, k), -1);
        }
        w.draw();
        is("with a tile too many", w.worth(0, 0), -1);
        w.call(10);
        // 1 by the call, never 1 for oneself
        is("worth(0, 0)", w.worth(0, 0), 6);
        is("worth(1, 1)", w.worth(1, 1), 6);
        // whatever was discarded
        w = laid(3, 7);
        w.draw();
        w.discard(3);
        is("worth(0, 3)", w.worth(0, 3), 5);
        is("worth(0, 0)", w.worth(0, 0), 5);
        is("worth(0, 6)", w.worth(0, 6), -1);
    }

    // ---- promise 20

    private static void best() {
        part = "best";
        Windsparlour w = laid(7, 0);
        is("in PHASE 0", w.best(), -1);
        w.draw();
        is("124689d2467bW", w.best(), 0);
        w.discard(0);
        is("in PHASE 2", w.best(), -1);
        w.pass();
        w.draw();
        is("24579d9bSNNRH", w.best(), 1);
        w = laid(3, 7);
        w.draw();
        is("23455677889d", w.best(), 1);
        // the fewest in hand: 2b is there once, the dots of 1111222233d several times
        w = laid(1, 0);
        w.draw();
        is("1111222233d2b", w.best(), 10);
        // who has called may discard what was drawn only, which best() does not mind
        w = laid(1, 0);
        w.draw();
        w.call(2);
        w.pass();
        turns(w, 3);
        w.draw();
        is("1111222233d without a 3, 2b 3b", w.best(), 10);
        w = laid(3, 2);
        w.draw();
        w.win(0);
        is("in PHASE 3", w.best(), -1);
    }

    // ---- promise 21

    private static void isSafe() {
        part = "isSafe";
        Windsparlour w = laid(1, 0);
        for (int k = 0; k < 25; k++) {
            is("nobody has called", w.isSafe(0, k), true);
        }
        w.draw();
        w.call(2);
        for (int k = 0; k < 25; k++) {
            is("0 has called", w.isSafe(0, k), true);
            is("0 has called", w.isSafe(1, k), k == 2);
        }
        // the discard leaves the RIVER, but was discarded
        w.claim(1, 0, 0);
        is("RIVER", w.ofPlayer(0, 4), 0);
        is("what was claimed", w.isSafe(1, 2), true);
        w.discard(4);
        w.pass();
        w.draw();
        w.call(10);
        is("of 0 only", w.isSafe(1, 2), false);
        is("of 2 only", w.isSafe(3, 10), false);
        is("for 0 only 2 counts", w.isSafe(0, 10), true);
        is("for 2 only 0 counts", w.isSafe(2, 2), true);
        is("for 2 only 0 counts", w.isSafe(2, 10), false);
        w.pass();
        w.draw();
        w.discard(10);
        w.pass();
        is("0 has not discarded it yet", w.isSafe(3, 10), false);
        w.discard(w.draw());
        is("the RIVER of 0", w.river(0, 0), 10);
        is("both have", w.isSafe(3, 10), true);
        // what was discarded ahead of the call counts, too
        w = laid(1, 0);
        turns(w, 4);
        w.draw();
        w.call(11);
        is("ahead of the call", w.isSafe(2, 10), true);
        is("with the call", w.isSafe(2, 11), true);
        is("never", w.isSafe(2, 0), false);
    }

    // ---- promise 22

    private static void outs() {
        part = "outs";
        Windsparlour w = laid(7, 0);
        w.draw();
        is("with a tile too many", w.outs(0), 0);
        w.discard(0);
        w.pass();
        w.draw();
        w.discard(17);
        w.pass();
        w.draw();
        w.discard(24);
        w.pass();
        w.draw();
        is("outs(0)", w.outs(0), 54);
        is("outs(1)", w.outs(1), 40);
        is("outs(2)", w.outs(2), 52);
        is("outs(3)", w.outs(3), 0);
        // 3344445555d waits for 2d to 6d: four, two, none, none and four of them
        w = laid(1, 0);
        is("outs(1)", w.outs(1), 10);
        w.draw();
        w.discard(2);
        is("outs(1), one of which lies", w.outs(1), 9);
        // the 2b that 0 waits for is there three times beside its own
        is("outs(0)", w.outs(0), 3);
        w.pass();
        w.discard(w.draw());
        is("outs(0)", w.outs(0), 2);
    }

    // ---- promise 23

    private static void digest() {
        part = "digest";
        // with an object for each, as sum() asks much of it
        for (int calls = 0; calls <= 8; calls++) {
            Windsparlour w = played(calls);
            is("behind so many calls: " + calls, w.digest(), sum(w));
            is("once more", w.digest(), w.digest());
        }
        is("of a run that is written out", digestOfARun(), -1075633325285555971L);
    }

    /** The first calls of a run in which a FOUR lies, and that is won. */
    private static Windsparlour played(int calls) {
        Call[] run = {x -> x.lay(1, 0), x -> x.draw(), x -> x.call(10), x -> x.pass(), x -> x.draw(), x -> x.four(3),
            x -> x.discard(2), x -> x.win(0)};
        Windsparlour w = new Windsparlour();
        for (int i = 0; i < calls; i++) {
            run[i].on(w);
        }
        return w;
    }

    private static long digestOfARun() {
        Windsparlour w = laid(3, 7);
        w.draw();
        w.discard(1);
        w.pass();
        w.draw();
        w.discard(7);
        w.pass();
        w.draw();
        w.discard(21);
        w.pass();
        w.draw();
        return w.digest();
    }

    private static long sum(Windsparlour w) {
        long d = 58317;
        for (int what = 0; what <= 9; what++) {
            d = d * 31 + w.many(what);
        }
        for (int p = 0; p < 4; p++) {
            for (int what = 0; what <= 9; what++) {
                d = d * 31 + w.ofPlayer(p, what);
            }
            for (int k = 0; k < 25; k++) {
                d = d * 31 + w.has(p, k);
            }
            for (int set = 0; set < w.ofPlayer(p, 1); set++) {
                d = d * 31 + w.ofSet(p, set);
            }
            for (int place = 0; place < w.ofPlayer(p, 4); place++) {
                d = d * 31 + w.river(p, place);
            }
            d = d * 31 + w.waits(p);
            d = d * 31 + (long) (4 * w.lead(p));
        }
        return d * 31 + w.best();
    }

    // ---- what all of them refuse

    private static void wrongPlayersAndKinds() {
        part = "wrong players and kinds";
        Windsparlour w = laid(1, 0);
        w.draw();
        for (int player : NO_PLAYERS) {
            refused(w, "has", INDEX, x -> x.has(player, 0));
            refused(w, "has", INDEX, x -> x.has(player, 25));
            refused(w, "ofPlayer", INDEX, x -> x.ofPlayer(player, 0));
            refused(w, "ofPlayer", INDEX, x -> x.ofPlayer(player, 10));
            refused(w, "ofSet", INDEX, x -> x.ofSet(player, 0));
            refused(w, "river", INDEX, x -> x.river(player, 0));
            refused(w, "waits", INDEX, x -> x.waits(player));
            refused(w, "hand", INDEX, x -> x.hand(player));
            refused(w, "lead", INDEX, x -> x.lead(player));
            refused(w, "worth", INDEX, x -> x.worth(player, 0));
            refused(w, "worth", INDEX, x -> x.worth(player, 25));
            refused(w, "isSafe", INDEX, x -> x.isSafe(player, 0));
            refused(w, "isSafe", INDEX, x -> x.isSafe(player, -1));
            refused(w, "outs", INDEX, x -> x.outs(player));
            refused(w, "win", INDEX, x -> x.win(player));
        }
        for (int kind : NO_KINDS) {
            refused(w, "has", ARGUMENT, x -> x.has(0, kind));
            refused(w, "worth", ARGUMENT, x -> x.worth(1, kind));
            refused(w, "isSafe", ARGUMENT, x -> x.isSafe(2, kind));
            refused(w, "seen", ARGUMENT, x -> x.seen(kind));
        }
        for (int what : NO_WHATS) {
            refused(w, "ofPlayer", ARGUMENT, x -> x.ofPlayer(3, what));
        }
    }
}
