/**
 * The document's sentences that name a boundary case, in their order: each of them, as it is written
 * there, with runs that show it on either side of the boundary.
 *
 * With a STEP of 1 the PLAYER p has the numbers SHIFT + 10 p to SHIFT + 10 p + 9, four numbers a KIND.
 */
final class BoundariesTest {
    private static final int MIN = Integer.MIN_VALUE;
    private static final int MAX = Integer.MAX_VALUE;
    private static final int[] NO_PLAYERS = {-1, 4, MIN, MAX};
    private static final int[] NO_KINDS = {-1, 25, MIN, MAX};
    /** Six ROUNDS, behind which 1 has less than no POINTS. */
    private static final String BELOW_0 = "points(250, 250, 250, 250); lay(3, 2); draw(); win(0) = 6;"
        + "lay(1, 5); draw(); discard(3); win(0) = 9; lay(3, 2); draw(); discard(5); win(0) = 5;"
        + "lay(1, 10); draw(); win(3) = 7; lay(3, 2); draw(); win(0) = 6; points(534, 66, 114, 286);"
        + "lay(1, 5) = 1; draw(); discard(3); win(0) = 9; points(642, -42, 114, 286);";

    public static void main(String[] args) {
        calls();
        kinds();
        walls();
        foursFromTheOtherEnd();
        whenNobodyCanDraw();
        luckyKinds();
        rowsInHands();
        foursAsThreeTiles();
        tilesTooMany();
        completeAndReady();
        far();
        dealers();
        phases();
        turnsBehind3();
        claimsOfThrees();
        claimsOfRows();
        claimsOfFours();
        whatIsClaimed();
        closedFours();
        fourFours();
        calling();
        havingCalled();
        winningAlone();
        winningByADiscard();
        ownDiscards();
        valueOfLuckyTiles();
        valueOfDragonsAndWinds();
        valueWithoutEnds();
        valueOfThrees();
        valueOfSuits();
        valueOfCallsAndClosedHands();
        valueAtMost();
        payments();
        pointsBelow0();
        whatStays();
        refusedCallsChangeNothing();
        layArguments();
        wrongPlayers();
        wrongKinds();
        wrongWhats();
        firstNamedException();
        aheadOfTheFirstRound();
        setsAndPlaces();
        hands();
        asked();
        bestOfSeveral();
        safeTiles();
        outs();
        digests();
        Run.end();
    }

    // ---- what it is

    private static void calls() {
        // four ROUNDS of 110 calls that nobody wins, and 72 calls more
        String round = "turns(36); draw() = -1; ";
        Run.holds("An object is used for at most 512 calls after it has been made",
            "lay(1, 0) = 0;" + round + "lay(1, 0) = 1;" + round + "lay(1, 0) = 2;" + round + "lay(1, 0) = 3;" + round,
            "lay(1, 0) = 0; turns(22); draw() = 15; discard(15) = 6; ofPlayer(0, 0) = 290; ofPlayer(3, 0) = 130; many(7) = 5");
    }

    // ---- 1 TILES

    private static void kinds() {
        Run.holds("KINDS are 0 to 24",
            "lay(99, 99); draw() = 14; has(0, 0) = 0; has(0, 24) = 4; seen(0) = 0; seen(24) = 0; worth(1, 0) = -1;",
            "worth(1, 24) = -1; isSafe(1, 0) = true; isSafe(1, 24) = true; call(0) = STATE; four(0) = STATE; discard(0) = STATE;",
            "discard(24) = 1");
        Run.holds("KINDS are 0 to 24", "lay(99, 99); draw(); four(24) = 0; call(24) = STATE");
        Run.holds("KINDS are 0 to 24", "lay(1, 0); draw(); four(0) = 24; has(0, 24) = 1; discard(1) = 1");
        Run.holds("KINDS are 0 to 24", "lay(1, 0); draw(); call(0) = STATE; discard(0) = 1; river(0, 0) = 0; seen(0) = 1");
    }

    /** Each WALL that can be laid, as far as it is seen ahead of the first discard. */
    private static void walls() {
        for (int step = 1; step <= 99; step++) {
            for (int shift = 0; shift <= 99 && step % 2 != 0 && step % 5 != 0; shift++) {
                Windsparlour w = new Windsparlour();
                w.lay(step, shift);
                String where = "what is left of (STEP times t, and SHIFT, together) by 100: lay(" + step + ", " + shift + "), ";
                for (int p = 0; p < 4; p++) {
                    Run.is(where + "the hand of " + p, dealtTo(w, p), placesOf(step, shift, p));
                }
                Run.is(where + "draw()", w.draw(), (step * 40 + shift) % 100 / 4);
            }
        }
        for (int shift = 0; shift <= 99; shift++) {
            Windsparlour w = new Windsparlour();
            w.lay(3, shift);
            for (int place = 40; place <= 75; place++) {
                int kind = w.draw();
                Run.is("the TILE that is drawn next is the place 40, and so on: " + place, kind, (3 * place + shift) % 100 / 4);
                w.discard(kind);
                w.pass();
            }
        }
    }

    private static String dealtTo(Windsparlour w, int player) {
        StringBuilder text = new StringBuilder();
        for (int kind = 0; kind < 25; kind++) {
            text.append(w.has(player, kind));
        }
        return text.toString();
    }

    private static String placesOf(int step, int shift, int player) {
        int[] many = new int[25];
        for (int place = 10 * player; place <= 10 * player + 9; place++) {
            many[(step * place + shift) % 100 / 4]++;
        }
        StringBuilder text = new StringBuilder();
        for (int kind = 0; kind < 25; kind++) {
            text.append(many[kind]);
        }
        return text.toString();
    }

    private static void foursFromTheOtherEnd() {
        String sentence = "a FOUR draws from the other end (99, then 98 and so on)";
        // the numbers 0, 99, 98 and 97 lie at the places 99, 98, 97 and 96
        Run.holds(sentence, "lay(1, 1); draw() = 10; four(1) = 0; discard(10); pass(); draw() = 10; four(3) = 24; four(4) = 24;",
            "discard(10); pass(); draw() = 10; four(6) = 24; many(2) = 53");
        // 1, 0, 99 and 98
        Run.holds(sentence,
            "lay(1, 2); draw() = 10; four(1) = 0; four(2) = 0; discard(10); pass(); draw() = 10; four(3) = 24; four(4) = 24");
        // 2, 1, 0 and 99
        Run.holds(sentence, "lay(1, 3); draw() = 10; four(1) = 0; four(2) = 0; discard(10); pass(); draw() = 11; four(4) = 0;",
            "discard(11); pass(); draw() = 11; four(6) = 24; many(2) = 53");
        // 13 and 12, the first one by a claim
        Run.holds(sentence,
            "lay(1, 53); draw(); discard(23); pass(); draw(); four(16) = 13; discard(15); claim(0, 2, 0) = 1; has(0, 12) = 1");
    }

    private static void whenNobodyCanDraw() {
        String sentence = "Nobody can draw, if 24 or fewer are left";
        Run.holds(sentence,
            "lay(1, 0); turns(35); many(2) = 25; draw() = 18; many(2) = 24; discard(18); pass() = 0; draw() = -1; many(2) = 24");
        // a FOUR takes the last one that can be drawn
        Run.holds(sentence,
            "lay(1, 0); turns(34); draw() = 18; many(2) = 25; four(5) = 24; many(2) = 24; discard(24); pass() = 3; draw() = -1;",
            "many(0) = 3");
    }

    private static void luckyKinds() {
        String sentence = "The LUCKY KIND follows the one at the place 95";
        // with a STEP of 1 the number at the place 95 is 5 less than SHIFT
        String[] behind = {
            // 8 dots, 9 dots, 1 bamboo
            "lay(1, 36); many(3) = 8", "lay(1, 37); many(3) = 0", "lay(1, 40); many(3) = 0", "lay(1, 41); many(3) = 10",
            // 8 bamboos, 9 bamboos, east
            "lay(1, 72); many(3) = 17", "lay(1, 73); many(3) = 9", "lay(1, 76); many(3) = 9", "lay(1, 77); many(3) = 19",
            // west, north, red
            "lay(1, 88); many(3) = 21", "lay(1, 89); many(3) = 18", "lay(1, 92); many(3) = 18", "lay(1, 93); many(3) = 23",
            // green, white, 1 dot
            "lay(1, 0); many(3) = 24", "lay(1, 1); many(3) = 22", "lay(1, 4); many(3) = 22", "lay(1, 5); many(3) = 1"};
        for (String run : behind) {
            Run.holds(sentence, run);
        }
    }

    // ---- 2 HANDS

    private static void rowsInHands() {
        String sentence = "a ROW (three numbers of a suit that follow each other)";
        // the lowest and the highest ROW of each suit
        Run.holds(sentence,
            "lay(1, 0); hand(0) = 1111222233d; waits(0) = {0 1 2 3}; hand(2) = 6666777788d; waits(2) = {4 5 6 7 8}");
        Run.holds(sentence, "lay(1, 6); hand(3) = 1111222233b; waits(3) = {9 10 11 12}");
        Run.holds(sentence, "lay(1, 26); hand(3) = 6666777788b; waits(3) = {13 14 15 16 17}");
        // none from 8 or 9 dots into the bamboos
        Run.holds(sentence, "lay(1, 0); hand(3) = 889999d1111b; waits(3) = {}");
        Run.holds(sentence, "lay(1, 2); hand(3) = 9999d111122b; waits(3) = {}");
        // none from 8 or 9 bamboos into the winds
        Run.holds(sentence, "lay(1, 29); hand(3) = 6777788889b; waits(3) = {13 14 15 16 17}");
        Run.holds(sentence, "lay(1, 33); hand(3) = 788889999bE; waits(3) = {18}");
        // none of HONOURS
        Run.holds(sentence, "lay(1, 39); hand(3) = 999bEEEESSS; waits(3) = {18}");
        Run.holds(sentence, "lay(1, 43); hand(3) = EEESSSSWWW; waits(3) = {19}");
        Run.holds(sentence, "lay(1, 47); hand(3) = SSSWWWWNNN; waits(3) = {20}");
        Run.holds(sentence, "lay(1, 51); hand(3) = WWWNNNNRRR; waits(3) = {21}");
        Run.holds(sentence, "lay(1, 55); hand(3) = NNNRRRRGGG; waits(3) = {22}");
    }

    private static void foursAsThreeTiles() {
        // SS WWWW NNNN and 5d, where each FOUR draws a wind
        Run.holds("a FOUR (four of one KIND; it counts as 3 TILES)",
            "lay(1, 78); draw() = 4; hand(0) = 5dSSWWWWNNNN; four(20) = 19; ofPlayer(0, 3) = 8; four(21) = 19; ofPlayer(0, 3) = 5;",
            "four(19) = 18; hand(0) = 5dE; ofPlayer(0, 1) = 3; ofPlayer(0, 6) = 0; waits(0) = {}; win(0) = STATE;",
            "discard(4); ofPlayer(0, 3) = 1; ofPlayer(0, 6) = 0; waits(0) = {18}; outs(0) = 3");
    }

    private static void tilesTooMany() {
        String sentence = "11 for who has drawn or claimed: one TILE too many";
        Run.holds(sentence,
            "lay(1, 0); waits(0) = {0 1 2 3}; outs(0) = 6; worth(0, 0) = 5; draw(); ofPlayer(0, 3) = 11; waits(0) = {};",
            "outs(0) = 0; worth(0, 0) = -1; discard(10); ofPlayer(0, 3) = 10; waits(0) = {0 1 2 3}");
        Run.holds(sentence, "lay(1, 0); draw(); discard(2); waits(1) = {1 2 3 4 5}; outs(1) = 9; claim(1, 0, 0);",
            "ofPlayer(1, 3) = 8; waits(1) = {}; outs(1) = 0; worth(1, 2) = -1; discard(4); ofPlayer(1, 3) = 7; waits(1) = {2 3 5}");
        // three of the FOUR, and what it draws
        Run.holds(sentence, "lay(1, 0); draw(); four(0) = 24; ofPlayer(0, 3) = 8; waits(0) = {}; outs(0) = 0; worth(0, 24) = -1");
        // who has won by a discard
        Run.holds(sentence,
            "lay(3, 11); draw(); discard(2); outs(3) = 2; win(3) = 5; ofPlayer(3, 3) = 11; waits(3) = {}; outs(3) = 0;",
            "worth(3, 2) = -1");
    }

    private static void completeAndReady() {
        Run.holds("It is COMPLETE, if its 11 are three SETS and a PAIR",
            "lay(3, 2); draw() = 5; hand(0) = 12334566678d; ofPlayer(0, 6) = -1; win(0) = 6");
        // 111 222 3 3 with 2 bamboos: three SETS would leave two different TILES
        Run.holds("It is COMPLETE, if its 11 are three SETS and a PAIR",
            "lay(1, 0); draw() = 10; hand(0) = 1111222233d2b; ofPlayer(0, 6) = 0; win(0) = STATE");
        String sentence = "READY ... by some KIND more (whatever is left of it, none, too)";
        // all four of it are in hand
        Run.holds(sentence,
            "lay(1, 39); hand(3) = 999bEEEESSS; has(3, 18) = 4; waits(3) = {18}; ofPlayer(3, 6) = 0; worth(3, 18) = 5;",
            "outs(3) = 0");
        // all four of it lie in the own closed FOUR
        Run.holds(sentence, "lay(99, 60); draw(); four(13) = 15; discard(5); hand(0) = 4666677b; seen(13) = 4; waits(0) = {13};",
            "ofPlayer(0, 6) = 0; worth(0, 13) = 6; outs(0) = 0");
        // so one may CALL
        Run.holds(sentence, "lay(99, 60); draw(); four(13) = 15; call(5) = 240; waits(0) = {13}");
        // and is READY as nobody can draw: none of the four pays
        Run.holds(sentence, "lay(1, 39); turns(36); waits(3) = {18}; draw() = -1; points(250, 250, 250, 250)");
    }

    private static void far() {
        String two = "a TWO is two numbers of a suit that differ by 1 or 2";
        // all differ by 3 at least; HONOURS make no TWO
        Run.holds(two, "lay(11, 54); hand(3) = 258d147bEWNG; ofPlayer(3, 6) = 6");
        // 13b or 35b; 7d and 9d or 5d and 7d
        Run.holds(two, "lay(9, 19); hand(0) = 158d1358bEWR; ofPlayer(0, 6) = 5");
        Run.holds(two, "lay(9, 1); hand(3) = 2579d259bWRH; ofPlayer(3, 6) = 5");
        // 345 567 88 and 9d, 1b: the two last ones are of two suits
        Run.holds(two, "lay(3, 10); hand(0) = 345567889d1b; ofPlayer(0, 6) = 1");
        // 8b and 9b with the east
        Run.holds(two, "lay(3, 35); hand(1) = 899bESWWNRG; ofPlayer(1, 6) = 4");
        Run.holds(two, "lay(3, 10); hand(2) = 9bESSWNRRGH; ofPlayer(2, 6) = 4");
        String most = "PAIRS and TWOS beside these (3 less s together at most)";
        // three TWOS: 12d 46d 89d; five: 12d 46d 89d 24b 67b
        Run.holds(most, "lay(7, 2); hand(1) = 124689dESNG; ofPlayer(1, 6) = 3");
        Run.holds(most, "lay(7, 0); hand(0) = 124689d2467b; ofPlayer(0, 6) = 3");
        String pair = "h (1, if there is one PAIR more beside all these, otherwise 0)";
        // one PAIR alone, and two of them
        Run.holds(pair, "lay(11, 0); hand(1) = 3369d258bSNH; ofPlayer(1, 6) = 5");
        Run.holds(pair, "lay(3, 12); hand(2) = EESWNNRGHH; ofPlayer(2, 6) = 3");
        // one PAIR and one TWO; two of each
        Run.holds(pair, "lay(11, 1); hand(1) = 3369d358bSRH; ofPlayer(1, 6) = 4");
        Run.holds(pair, "lay(17, 0); hand(3) = 3478d3377bSG; ofPlayer(3, 6) = 2");
        // four PAIRS, and a fifth one: three, and one PAIR more
        Run.holds(pair,
            "lay(49, 0); hand(1) = 899d11bWNNRR; ofPlayer(1, 6) = 2; turns(29); draw() = 20; hand(1) = 899d11bWWNNRR;",
            "ofPlayer(1, 6) = 2");
        String sets = "with s SETS that lie or are made out of the hand (3 at most)";
        // EEE SSS, EEE SS SS: 2, each way
        Run.holds(sets, "lay(1, 41); hand(3) = 9bEEEESSSSW; ofPlayer(3, 6) = 2");
        // three SETS lie, beside two TILES, one TILE and a PAIR
        Run.holds(sets,
            "lay(1, 78); draw(); four(20); four(21); four(19); hand(0) = 5dE; ofPlayer(0, 6) = 0; discard(18); hand(0) = 5d;",
            "ofPlayer(0, 6) = 0");
        Run.holds(sets,
            "lay(1, 90); draw() = 7; discard(7); claim(3, 0, 6) = 1; four(6) = 22; four(5) = 22; hand(3) = RR;",
            "ofPlayer(3, 6) = -1");
        String ends = "(It is 0 if the hand is READY, -1 if it is COMPLETE.)";
        Run.holds(ends,
            "lay(3, 2); waits(0) = {2 5 8}; ofPlayer(0, 6) = 0; draw() = 5; ofPlayer(0, 6) = -1; win(0); ofPlayer(0, 6) = -1");
        Run.holds(ends, "lay(3, 11); draw(); discard(2); ofPlayer(3, 6) = 0; win(3); ofPlayer(3, 6) = -1");
    }

    // ---- 3 A ROUND

    private static void dealers() {
        String sentence = "The DEALER is the PLAYER 0 in the first ROUND, in each later one the next PLAYER (0 behind 3)";
        Run.holds(sentence,
            "many(8) = -1; lay(3, 2) = 0; many(8) = 0; many(1) = 0; draw(); win(0); many(8) = 0; lay(1, 5) = 1; many(8) = 1;",
            "many(1) = 1; draw() = 11; discard(3); win(0); lay(3, 2) = 2; many(8) = 2; many(1) = 2; draw(); discard(5); win(0);",
            "lay(1, 10) = 3; many(8) = 3; many(1) = 3; draw() = 12; win(3); lay(3, 2) = 0; many(8) = 0; many(1) = 0;",
            "ofPlayer(0, 7) = 0; ofPlayer(3, 7) = 3; draw() = 5; win(0) = 6; lay(1, 0) = 1");
        // whoever won, or nobody
        Run.holds(sentence, "lay(1, 0) = 0; turns(36); draw() = -1; lay(1, 0) = 1; draw(); discard(4); win(2); lay(1, 0) = 2");
    }

    private static void phases() {
        String sentence = "draws (PHASE 0), then discards (PHASE 1) ...; then (PHASE 2) ... "
            + "In PHASE 3 no ROUND goes on (at first, too)";
        Run.holds(sentence,
            "onlyPhase(3); lay(1, 0); onlyPhase(0); draw(); onlyPhase(1); discard(2); onlyPhase(2); pass(); onlyPhase(0); draw();",
            "discard(10); onlyPhase(2)");
        Run.holds(sentence, "lay(1, 0); draw(); discard(2); claim(1, 1, 2); onlyPhase(1)");
        Run.holds(sentence, "lay(33, 3); draw(); discard(16); claim(1, 2, 0); onlyPhase(1)");
        Run.holds(sentence, "lay(1, 0); draw(); four(0); onlyPhase(1); call(24) = STATE; discard(24); onlyPhase(2)");
        Run.holds(sentence, "lay(1, 0); draw(); call(10); onlyPhase(2)");
        // 1 waited for the 3 dots, and could claim them: it is too late as 0 has the TURN again
        Run.holds(sentence,
            "lay(1, 0); draw(); discard(2); worth(1, 2) = 6; pass(); turns(3); river(0, 0) = 2; onlyPhase(0); draw();",
            "onlyPhase(1)");
        // won by oneself, won by a discard, and nobody can draw
        Run.holds(sentence, "lay(3, 2); draw(); win(0); many(1) = -1; onlyPhase(3)");
        Run.holds(sentence, "lay(3, 11); draw(); discard(2); win(3); many(1) = -1; onlyPhase(3)");
        // so it is as the ROUND is over
        Run.holds(sentence,
            "lay(1, 0); turns(32); draw(); discard(2); worth(1, 2) = 6; pass(); turns(3); draw() = -1; onlyPhase(3);",
            "lay(1, 0) = 1; onlyPhase(0)");
    }

    private static void turnsBehind3() {
        Run.holds("the next PLAYER has the TURN",
            "lay(1, 0); many(1) = 0; draw(); discard(10); pass() = 1; turns(1); many(1) = 2; turns(1); many(1) = 3; draw();",
            "many(1) = 3; discard(10); many(1) = 3; pass() = 0; many(1) = 0");
        // behind a claim the next one of who did it; 3 claims from 0, 0 is next
        Run.holds("who did it has the TURN then",
            "lay(3, 7); draw(); discard(3); claim(3, 0, 0) = 1; many(1) = 3; discard(24); pass() = 0");
        Run.holds("To CLAIM a ROW: only the next PLAYER behind the one who discarded",
            "lay(3, 0); turns(3); draw() = 7; hand(0) = 1123445677d; discard(2); claim(1, 1, 0) = STATE; claim(2, 1, 0) = STATE;",
            "claim(0, 1, 0) = 1; many(1) = 0");
        // 2 has the 6 and 7 dots, but 0 is next
        Run.holds("To CLAIM a ROW: only the next PLAYER behind the one who discarded",
            "lay(1, 0); turns(3); draw(); discard(7); has(2, 5) = 4; has(2, 6) = 4; claim(2, 1, 5) = STATE;",
            "claim(0, 1, 5) = STATE; claim(2, 0, 5) = 1");
    }

    private static void claimsOfThrees() {
        String sentence = "To CLAIM a THREE: two more of it are in hand";
        // none, one, two and three more
        Run.holds(sentence,
            "lay(1, 1); draw(); discard(2); has(2, 2) = 0; claim(2, 0, 2) = STATE; has(1, 2) = 1; claim(1, 0, 2) = STATE");
        Run.holds(sentence, "lay(1, 0); draw(); discard(2); has(1, 2) = 2; claim(1, 0, 2) = 1; has(1, 2) = 0; ofSet(1, 0) = 2");
        Run.holds(sentence,
            "lay(1, 1); turns(1); draw(); discard(5); has(2, 5) = 3; claim(2, 0, 5) = 1; has(2, 5) = 1; ofSet(2, 0) = 5");
        // of the lowest and the highest KIND
        Run.holds(sentence, "lay(99, 40); draw(); discard(0); has(3, 0) = 3; claim(3, 0, 0) = 1; ofSet(3, 0) = 0");
        Run.holds(sentence,
            "lay(1, 99); draw(); four(0) = 24; discard(9); pass(); draw(); four(3) = 24; discard(24); has(0, 24) = 2;",
            "claim(0, 0, 0) = 2; ofSet(0, 1) = 24");
        Run.holds("somebody else CLAIMS that TILE",
            "lay(1, 0); draw(); discard(0); has(0, 0) = 3; claim(0, 0, 0) = STATE; claim(0, 2, 0) = STATE; claim(0, 1, 0) = STATE");
    }

    private static void claimsOfRows() {
        String sentence = "To CLAIM a ROW: ... the other two are in hand";
        // the lowest and the highest ROW of each suit
        Run.holds(sentence,
            "lay(7, 4); hand(1) = 13568d1bEWRG; draw(); discard(1); claim(1, 1, 0) = 1; ofSet(1, 0) = 100; hand(1) = 568d1bEWRG");
        Run.holds(sentence,
            "lay(7, 0); hand(1) = 24579d9bSNRH; draw(); discard(7); claim(1, 1, 6) = 1; ofSet(1, 0) = 106; hand(1) = 245d9bSNRH");
        Run.holds(sentence,
            "lay(7, 12); hand(1) = 13578d13bWRH; draw(); discard(10); claim(1, 1, 9) = 1; ofSet(1, 0) = 109; hand(1) = 13578dWRH");
        Run.holds(sentence,
            "lay(7, 36); hand(1) = 24679d24579b; draw(); discard(16); claim(1, 1, 15) = 1; ofSet(1, 0) = 115;",
            "hand(1) = 24679d245b");
        // from one suit into what is behind it, and of HONOURS: the other two are in hand
        String[] none = {"lay(7, 4); draw(); discard(8); has(1, 7) = 1; has(1, 9) = 1; claim(1, 1, 7) = STATE",
            "lay(7, 6); draw(); discard(10); has(1, 8) = 1; has(1, 9) = 1; claim(1, 1, 8) = STATE",
            "lay(7, 38); draw(); discard(18); has(1, 16) = 1; has(1, 17) = 1; claim(1, 1, 16) = STATE",
            "lay(7, 42); draw(); discard(19); has(1, 17) = 1; has(1, 18) = 1; claim(1, 1, 17) = STATE",
            "lay(7, 2); draw(); discard(20); has(1, 18) = 1; has(1, 19) = 1; claim(1, 1, 18) = STATE",
            "lay(7, 0); draw(); discard(20); has(1, 19) = 1; has(1, 21) = 1; claim(1, 1, 19) = STATE",
            "lay(7, 4); draw(); discard(21); has(1, 20) = 1; has(1, 22) = 1; claim(1, 1, 20) = STATE",
            "lay(7, 8); draw(); discard(22); has(1, 21) = 1; has(1, 23) = 1; claim(1, 1, 21) = STATE",
            "lay(7, 12); draw(); discard(23); has(1, 22) = 1; has(1, 24) = 1; claim(1, 1, 22) = STATE"};
        for (String run : none) {
            Run.holds("a ROW (three numbers of a suit that follow each other)", run);
        }
        // one of the two is wanting: 45d without 3d and 6d
        Run.holds(sentence,
            "lay(13, 6); hand(1) = 147d12457bER; draw(); discard(4); claim(1, 1, 2) = STATE; claim(1, 1, 3) = STATE;",
            "claim(1, 1, 4) = STATE");
        // a ROW that is in hand as it is, while the TILE lies below or above it
        Run.holds(sentence,
            "lay(3, 7); hand(1) = 1223455678b; draw(); discard(3); claim(1, 1, 9) = STATE; claim(1, 1, 12) = STATE");
        Run.holds(sentence,
            "lay(3, 76); hand(1) = 2344567789d; draw(); discard(19); claim(1, 1, 1) = STATE; claim(1, 1, 6) = STATE");
        // what is no KIND, or begins no ROW with the TILE
        for (int low : new int[] {MIN, -1, 0, 1, 3, 4, 23, 24, 25, MAX - 2, MAX - 1, MAX}) {
            Run.holds("low: the smallest KIND of a ROW",
                with(low, "lay(1, 0); draw(); discard(2); claim(1, 1, #) = STATE; claim(1, 1, 2) = 1"));
        }
        for (int low : new int[] {MIN, -1, 25, MAX}) {
            Run.holds("of others it does not matter", with(low, "lay(1, 0); draw(); discard(2); claim(1, 0, #) = 1"));
            Run.holds("of others it does not matter", with(low, "lay(33, 3); draw(); discard(16); claim(1, 2, #) = 1"));
        }
    }

    private static void claimsOfFours() {
        String sentence = "To CLAIM a FOUR: three more are in hand; one draws";
        // one, two and three more
        Run.holds(sentence, "lay(1, 1); draw(); discard(2); has(1, 2) = 1; claim(1, 2, 0) = STATE");
        Run.holds(sentence, "lay(1, 0); draw(); discard(2); has(1, 2) = 2; claim(1, 2, 0) = STATE");
        Run.holds(sentence,
            "lay(1, 1); turns(1); draw(); discard(5); has(2, 5) = 3; claim(2, 2, 0) = 1; has(2, 5) = 0; ofSet(2, 0) = 205;",
            "has(2, 0) = 1; many(2) = 57");
    }

    private static void whatIsClaimed() {
        // the TILE ahead of it stays, and what it took from the hand is gone
        Run.holds("What is CLAIMED leaves the RIVER and lies open with the others as a SET",
            "lay(1, 0); turns(4); draw(); discard(2) = 2; river(0, 1) = 2; claim(1, 0, 0) = 1; ofPlayer(0, 4) = 1;",
            "river(0, 0) = 10; river(0, 1) = INDEX; seen(2) = 3; ofPlayer(1, 2) = 1; hand(1) = 44445555d; many(0) = 1;",
            "many(1) = 1; many(4) = -1");
        Run.holds("What is CLAIMED leaves the RIVER",
            "lay(1, 0); draw(); discard(2); claim(1, 1, 2); ofPlayer(0, 4) = 0; river(0, 0) = INDEX; seen(2) = 1");
        // the third SET, beside which one TILE is left behind the discard
        Run.holds("Returns how many SETS of that PLAYER lie then",
            "lay(99, 27); draw(); four(5); four(6); discard(21); pass(); draw(); discard(4); claim(0, 0, 2) = 3;",
            "ofPlayer(0, 1) = 3; ofPlayer(0, 2) = 1; hand(0) = 88d; discard(7); hand(0) = 8d");
    }

    private static void closedFours() {
        String sentence = "A closed FOUR: in PHASE 1, who has the TURN lays four of one KIND out of the hand, closed, and draws";
        Run.holds(sentence,
            "lay(1, 1); draw(); has(0, 0) = 3; four(0) = STATE; has(0, 1) = 4; four(1) = 0; ofSet(0, 0) = 301; ofPlayer(0, 2) = 0;",
            "has(0, 0) = 4; four(0) = 24; ofSet(0, 1) = 300");
        // the fourth one is in hand, but three lie
        Run.holds(sentence, "lay(1, 1); turns(1); draw(); discard(5); claim(2, 0, 0) = 1; has(2, 5) = 1; four(5) = STATE");
        // whose TURN it is not
        Run.holds(sentence, "lay(1, 0); draw(); has(1, 3) = 4; four(3) = STATE; has(0, 1) = 4; four(1) = 24");
    }

    private static void fourFours() {
        String sentence = "There are 4 FOURS a ROUND at most";
        String four = "lay(1, 2); draw(); four(1); four(2); discard(10); pass();"
            + "draw(); four(3); many(5) = 3; four(4) = 24; many(5) = 4;";
        // a fifth one: closed, and claimed
        Run.holds(sentence, four,
            "discard(24); pass(); draw(); has(2, 6) = 4; four(6) = STATE; discard(11); pass(); draw(); has(3, 8) = 4;",
            "four(8) = STATE");
        Run.holds(sentence,
            "lay(99, 28); draw(); four(5) = 7; four(6) = 7; discard(22); claim(3, 2, 0) = 1; many(5) = 3; four(23) = 8;",
            "many(5) = 4; discard(7); has(0, 7) = 3; claim(0, 2, 0) = STATE; claim(0, 0, 0) = 3");
        // the fourth one may be claimed
        Run.holds(sentence,
            "lay(99, 28); draw(); four(5); four(6); discard(22); claim(3, 2, 0) = 1; discard(7); claim(0, 2, 0) = 3; many(5) = 4");
        // the next ROUND has its own four, from the place 99 on
        Run.holds(sentence, four,
            "discard(24); pass(); turns(30); draw() = -1; many(5) = 4; lay(1, 2) = 1; many(5) = 0; many(2) = 60; draw() = 10;",
            "four(3) = 0; four(4) = 0; discard(10); pass(); draw() = 10; four(6) = 24; discard(10); pass(); draw() = 11;",
            "four(8) = 24; many(5) = 4");
        String none = "and none if nobody can draw";
        Run.holds(none, "lay(1, 0); turns(35); draw(); many(2) = 24; has(3, 8) = 4; four(8) = STATE");
        Run.holds(none, "lay(1, 0); turns(34); draw(); many(2) = 25; four(5) = 24; many(2) = 24; has(2, 6) = 4; four(6) = STATE");
        Run.holds(none,
            "lay(1, 1); turns(35); draw(); many(2) = 24; discard(7); has(2, 7) = 3; claim(2, 2, 0) = STATE; claim(2, 0, 0) = 1");
        Run.holds(none,
            "lay(1, 3); turns(34); draw(); many(2) = 25; discard(8); claim(3, 2, 0) = 1; many(2) = 24; has(3, 9) = 4;",
            "four(9) = STATE");
    }

    private static void calling() {
        String sentence = "To CALL: in PHASE 1, without open SETS, not yet CALLED, and READY behind the discard that is told with it";
        Run.holds(sentence,
            "lay(1, 0); draw(); call(0) = STATE; call(1) = STATE; call(10) = 240; ofPlayer(0, 5) = 1; waits(0) = {0 1 2 3}");
        // already CALLED
        Run.holds(sentence, "lay(1, 0); draw(); call(10); pass(); turns(3); draw() = 11; call(11) = STATE; discard(11) = 2");
        // READY behind it, but a THREE, a ROW or a FOUR lies open
        Run.holds(sentence, "lay(1, 0); draw(); discard(2); claim(1, 0, 0); call(4) = STATE; discard(4); waits(1) = {2 3 5}");
        Run.holds(sentence, "lay(1, 0); draw(); discard(2); claim(1, 1, 2); call(3) = STATE; discard(3); ofPlayer(1, 6) = 0");
        Run.holds(sentence, "lay(67, 17); draw(); discard(5); claim(1, 2, 3); call(21) = STATE; discard(21); ofPlayer(1, 6) = 0");
        Run.holds(sentence,
            "lay(1, 53); draw(); discard(23); pass(); draw(); four(16); discard(15); claim(0, 2, 0); call(12) = STATE; win(0) = 9");
        // a closed one is none
        Run.holds(sentence, "lay(1, 0); draw(); four(0); four(1); ofPlayer(0, 2) = 0; call(10) = 240; waits(0) = {2 24}");
        // a COMPLETE hand that has none of the KIND
        Run.holds("or the PLAYER whose TURN it is has none of that KIND",
            "lay(3, 2); draw(); ofPlayer(0, 6) = -1; has(0, 24) = 0; call(24) = STATE; has(0, 8) = 0; call(8) = STATE;",
            "call(5) = 240");
        // as nobody can draw any more
        Run.holds(sentence, "lay(1, 6); turns(35); draw(); many(2) = 24; call(22) = STATE; call(20) = 240");
        Run.holds("10 POINTS go into the POT",
            "lay(1, 0); many(6) = 0; draw(); call(10) = 240; many(6) = 10; points(240, 250, 250, 250); pass(); draw();",
            "call(10) = 240; many(6) = 20; points(240, 240, 250, 250)");
    }

    private static void havingCalled() {
        String discards = "From then on that PLAYER discards only a TILE of the KIND that was drawn last";
        Run.holds(discards,
            "lay(1, 0); draw(); call(2); pass(); turns(3); draw() = 11; has(0, 10) = 1; discard(10) = STATE; discard(0) = STATE;",
            "discard(11) = 2");
        // one that was in hand already as it was drawn
        Run.holds(discards,
            "lay(3, 33); draw() = 13; call(8); claim(3, 0, 7); discard(9); pass(); draw() = 14; hand(0) = 11234455667b;",
            "discard(13) = STATE; discard(14) = 1");
        // what the others drew since does not matter
        Run.holds(discards,
            "lay(1, 0); draw() = 10; call(10); pass(); turns(3); draw() = 11; discard(11); pass(); turns(3); draw() = 12;",
            "discard(11) = STATE; discard(12) = 3");
        // the others are free
        Run.holds(discards, "lay(1, 0); draw(); call(10); pass(); draw() = 10; discard(3) = 1");
        String claims = "CLAIMS nothing";
        Run.holds(claims,
            "lay(1, 0); draw(); call(10); pass(); draw(); discard(2); has(0, 2) = 2; claim(0, 0, 0) = STATE;",
            "claim(3, 0, 0) = STATE");
        Run.holds(claims,
            "lay(1, 0); turns(1); draw(); call(10); pass(); turns(2); draw(); discard(2); claim(1, 1, 2) = STATE;",
            "claim(1, 0, 0) = STATE");
        Run.holds(claims,
            "lay(33, 3); turns(1); draw(); call(14) = 240; pass(); turns(2); draw(); discard(16); has(1, 16) = 3;",
            "claim(1, 2, 0) = STATE; claim(1, 0, 0) = STATE");
        String fours = "and makes no FOURS";
        Run.holds(fours, "lay(1, 0); draw(); call(10); pass(); turns(3); draw(); has(0, 0) = 4; four(0) = STATE; four(1) = STATE");
        // the fourth one is what was drawn
        Run.holds(fours,
            "lay(67, 47); draw(); call(11); claim(1, 1, 11); discard(5); claim(2, 2, 3); discard(22); pass(); draw(); call(15);",
            "pass(); draw(); discard(15); pass(); draw(); discard(13); claim(2, 0, 11); discard(14); pass(); draw() = 23;",
            "many(1) = 3; has(3, 23) = 4; many(5) = 1; four(23) = STATE; discard(23)");
        // it is over with the ROUND
        Run.holds("not yet CALLED",
            "lay(1, 0); draw(); call(10); pass(); turns(35); draw() = -1; ofPlayer(0, 5) = 1; lay(1, 0) = 1; ofPlayer(0, 5) = 0;",
            "turns(3); draw() = 10; discard(3) = STATE; four(0) = 24; discard(1) = 1");
        // who CALLED may still win, by a discard and by oneself
        Run.holds("To WIN", "lay(1, 0); draw(); call(10); pass(); draw(); discard(2); win(0) = 6");
        Run.holds("To WIN",
            "lay(3, 33); draw(); call(8); claim(3, 0, 7); discard(9); pass(); draw() = 14; win(0) = 7; points(334, 222, 222, 222);",
            "many(6) = 0");
    }

    private static void winningAlone() {
        String sentence = "by oneself: in PHASE 1, as one has the TURN, drew (also for a FOUR) "
            + "and not CLAIMED a THREE or a ROW as the latest thing, and is COMPLETE";
        Run.holds(sentence, "lay(3, 2); win(0) = STATE; draw(); win(1) = STATE; win(2) = STATE; win(3) = STATE; win(0) = 6");
        // READY only
        Run.holds(sentence, "lay(1, 0); draw(); ofPlayer(0, 6) = 0; win(0) = STATE");
        // what a closed FOUR drew, and what a claimed one drew
        Run.holds(sentence,
            "lay(1, 90); draw(); discard(7); claim(3, 0, 6); win(3) = STATE; four(6) = 22; win(3) = STATE; four(5) = 22;",
            "win(3) = 5");
        Run.holds(sentence,
            "lay(1, 53); draw(); discard(23); pass(); draw(); four(16); discard(15); claim(0, 2, 0) = 1; ofPlayer(0, 6) = -1;",
            "win(0) = 9");
        // COMPLETE by a THREE and by a ROW that was CLAIMED
        Run.holds(sentence, "lay(33, 75); draw(); discard(1); claim(1, 0, 0); ofPlayer(1, 6) = -1; win(1) = STATE");
        Run.holds(sentence, "lay(1, 32); draw(); discard(9); claim(1, 1, 9); ofPlayer(1, 6) = -1; win(1) = STATE");
        // as the third SET
        Run.holds(sentence,
            "lay(99, 27); draw(); four(5); four(6); discard(21); pass(); draw(); discard(4); claim(0, 0, 2) = 3; hand(0) = 88d;",
            "ofPlayer(0, 6) = -1; win(0) = STATE");
        // a CLAIM of an earlier turn does not matter
        Run.holds(sentence,
            "lay(67, 13); draw(); discard(12); claim(1, 0, 12); discard(13); claim(2, 0, 11); discard(21); claim(1, 2, 19);",
            "discard(11); pass(); draw() = 15; win(2) = 1");
        // by the last TILE that can be drawn
        Run.holds(sentence,
            "lay(7, 73); turns(3); draw(); discard(1); pass(); turns(3); draw(); discard(0); pass(); turns(3); draw();",
            "discard(18); pass(); turns(3); draw(); discard(14); pass(); turns(3); draw(); discard(20); pass(); turns(3); draw();",
            "discard(21); pass(); turns(3); draw(); discard(22); pass(); turns(3); draw(); discard(17); pass(); turns(3);",
            "draw() = 24; many(2) = 24; hand(3) = 345789d123bHH; many(3) = 10; win(3) = 3");
    }

    private static void winningByADiscard() {
        String sentence = "By a discard: in PHASE 2, not by the one who discarded, if the hand WAITS for it";
        // by each of the three others
        Run.holds(sentence, "lay(3, 11); draw(); discard(9); win(3) = STATE; win(2) = STATE; win(0) = STATE; win(1) = 5");
        Run.holds(sentence, "lay(1, 0); draw(); discard(4) = STATE; discard(2); win(2) = STATE; win(0) = STATE; win(1) = 6");
        Run.holds(sentence, "lay(1, 0); turns(1); draw(); discard(4); win(1) = STATE; win(0) = STATE; win(3) = STATE; win(2) = 6");
        Run.holds(sentence, "lay(3, 11); draw(); discard(2); win(1) = STATE; win(3) = 5");
        Run.holds(sentence, "lay(1, 0); draw(); discard(10); pass(); draw(); discard(2); win(3) = STATE; win(0) = 5");
        // behind a claim, and with an open SET
        Run.holds(sentence, "lay(67, 89); draw(); discard(6); claim(1, 0, 5); discard(7); claim(2, 2, 7); discard(16); win(1) = 3");
        // the last discard
        Run.holds(sentence, "lay(3, 0); turns(35); draw(); many(2) = 24; discard(6); win(0) = 5; many(9) = 0; many(2) = 24");
        // once more in the same ROUND
        Run.holds(sentence, "lay(3, 0); turns(35); draw(); discard(6); worth(1, 6) = 1; win(0); win(1) = STATE");
    }

    private static void ownDiscards() {
        String sentence = "and no KIND for which it WAITS was ever discarded by that PLAYER in this ROUND";
        // the same KIND, and another one of those
        Run.holds(sentence,
            "lay(3, 7); draw(); discard(7); ofPlayer(0, 9) = 1; pass(); draw(); discard(7); worth(0, 7) = 5; win(0) = STATE");
        Run.holds(sentence,
            "lay(3, 7); draw(); discard(1); ofPlayer(0, 9) = 1; pass(); draw(); discard(7); worth(0, 7) = 5; win(0) = STATE");
        // the one with which it was CALLED, and one that was drawn since
        Run.holds(sentence,
            "lay(3, 23); draw(); call(11); ofPlayer(0, 9) = 1; pass(); draw() = 11; discard(11); worth(0, 11) = 2; win(0) = STATE");
        Run.holds(sentence,
            "lay(3, 7); draw(); call(3); claim(3, 0, 0); ofPlayer(0, 4) = 0; ofPlayer(0, 9) = 1; discard(0); worth(0, 0) = 6;",
            "win(0) = STATE");
        // one for which it does not WAIT, and those of the others
        Run.holds(sentence, "lay(1, 0); turns(4); draw(); discard(11); pass(); ofPlayer(0, 9) = 0; draw(); discard(2); win(0) = 5");
        // in an earlier ROUND: 0 discarded 3 dots, and wins by them
        Run.holds(sentence,
            "lay(3, 11); draw(); discard(2); win(3); lay(1, 0) = 1; waits(0) = {0 1 2 3}; ofPlayer(0, 9) = 0; draw(); discard(2);",
            "win(0) = 5");
        // a win by oneself: another KIND for which it WAITS, and the very KIND, was discarded
        Run.holds("by oneself: in PHASE 1 ..., and is COMPLETE",
            "lay(3, 18); draw(); discard(9); pass(); turns(3); waits(0) = {9 12}; ofPlayer(0, 9) = 1; draw() = 12; win(0) = 2");
        Run.holds("by oneself: in PHASE 1 ..., and is COMPLETE",
            "lay(3, 18); draw(); discard(11); claim(1, 1, 11); discard(18); pass(); draw(); discard(22); pass(); draw();",
            "discard(11); pass(); ofPlayer(0, 9) = 1; draw() = 11; win(0) = 2");
        // a hand that is not READY, and one with a TILE too many
        Run.holds("1 if the hand is READY and a KIND for which it WAITS was discarded",
            "lay(7, 0); draw(); discard(0); waits(0) = {}; ofPlayer(0, 9) = 0");
        Run.holds("1 if the hand is READY and a KIND for which it WAITS was discarded",
            "lay(3, 7); draw(); discard(7); ofPlayer(0, 9) = 1; pass(); turns(3); draw(); ofPlayer(0, 9) = 0");
    }

    // ---- 4 VALUE of a win

    private static void valueOfLuckyTiles() {
        String sentence = "1 for each TILE of the LUCKY KIND (four of a FOUR, too)";
        // none, and the one that is in hand
        Run.holds(sentence, "lay(97, 31); hand(3) = 45667899d12b; many(3) = 12; worth(3, 11) = 1");
        Run.holds(sentence, "lay(1, 27); hand(0) = 788889999d1b; many(3) = 6; worth(0, 9) = 2");
        // the TILE that won
        Run.holds(sentence, "lay(1, 25); hand(0) = 7778888999d; many(3) = 6; worth(0, 6) = 9; worth(0, 7) = 10");
        // RRRR, NNN GGG, 55b: four of a closed FOUR, two dragons, THREES, a suit and HONOURS
        Run.holds(sentence,
            "lay(99, 93); many(3) = 22; draw(); four(22) = 23; discard(21); pass(); draw() = 13; discard(13); hand(0) = 5bNNNGGG;",
            "win(0) = 11");
        // 9999d, 1111b 222b, 88d: four of an open FOUR, THREES
        Run.holds(sentence,
            "lay(1, 33); many(3) = 8; draw(); discard(18); pass(); draw(); four(11) = 8; discard(8); claim(0, 2, 0) = 1;",
            "four(9) = 7; hand(0) = 88d222b; win(0) = 7");
        // 444d that lies open: three lucky ones, without ENDS, THREES, one suit
        Run.holds(sentence,
            "lay(1, 14); many(3) = 3; draw(); discard(13); claim(3, 0, 0); four(11) = 3; four(12) = 3; discard(3);",
            "claim(0, 0, 0) = 1; four(4); four(5); hand(0) = 33d; win(0) = 11");
        // 666d, and 678d that lies: four lucky ones, a dragon
        Run.holds(sentence,
            "lay(67, 51); many(3) = 5; draw(); discard(7); claim(1, 1, 5); discard(13); claim(0, 2, 0); discard(5);",
            "hand(1) = 66d66bRRR; win(1) = 6");
        // a fifth one
        Run.holds(sentence, "lay(99, 94); hand(0) = NNNRRRRGGG; many(3) = 22; worth(0, 22) = 10");
    }

    private static void valueOfDragonsAndWinds() {
        String dragon = "1 for each THREE or FOUR of a dragon";
        // RRR that lies, NNNN, WWWW, 44b: two lucky ones, the own wind, THREES, a suit and HONOURS
        Run.holds(dragon,
            "lay(1, 50); many(3) = 12; draw(); discard(22); claim(3, 0, 0) = 1; four(20) = 12; four(21) = 12; hand(3) = 44b;",
            "win(3) = 9");
        // RRRR open, NNNN, WWW, 44b; GGGG closed and HHHH open, RRR, 66b
        Run.holds(dragon,
            "lay(1, 51); many(3) = 12; draw(); discard(22); claim(3, 2, 0) = 1; four(21) = 12; hand(3) = 44bWWW; win(3) = 9");
        Run.holds(dragon,
            "lay(1, 59); many(3) = 14; draw(); discard(24); claim(3, 2, 0) = 1; four(23) = 14; hand(3) = 66bRRR; win(3) = 10");
        // each of the three in hand, and a PAIR
        Run.holds(dragon, "lay(33, 25); hand(0) = 6677d666bRRR; many(3) = 16; worth(0, 5) = 4");
        Run.holds(dragon, "lay(33, 29); hand(0) = 7788d777bGGG; many(3) = 17; worth(0, 6) = 4");
        Run.holds(dragon, "lay(33, 35); hand(1) = 888d7788bHHH; many(3) = 9; worth(1, 15) = 4");
        Run.holds(dragon, "lay(3, 96); hand(0) = 12334566dHH; many(3) = 21; worth(0, 5) = 3");
        String wind = "1 for one of the own wind (the DEALER's is east, the next one's south, and so on)";
        // EEE SSS WWW of 1, SSS WWW NNN of 2, of 1 and of 0, who has none
        Run.holds(wind, "lay(1, 63); hand(1) = EEESSSSWWW; many(3) = 15; worth(1, 19) = 4");
        Run.holds(wind, "lay(1, 57); hand(2) = SSSWWWWNNN; many(3) = 14; worth(2, 20) = 4");
        Run.holds(wind, "lay(1, 67); hand(1) = SSSWWWWNNN; many(3) = 16; worth(1, 20) = 4");
        Run.holds(wind, "lay(99, 86); hand(0) = SSSWWWWNNN; worth(0, 20) = 3");
        // EEE of 0; NNN of 3 with a dragon
        Run.holds(wind, "lay(3, 48); hand(0) = 44567789bEE; worth(0, 18) = 4; worth(0, 12) = 3");
        Run.holds(wind, "lay(1, 51); hand(3) = WWWNNNNRRR; many(3) = 12; worth(3, 21) = 5");
        // in the second ROUND 1 is the DEALER: SSS is no longer the own wind of 1, but of 2
        Run.holds(wind,
            "lay(3, 2); draw(); win(0); lay(1, 67) = 1; ofPlayer(1, 7) = 0; ofPlayer(0, 7) = 3; hand(1) = SSSWWWWNNN;",
            "worth(1, 20) = 3");
        Run.holds(wind, "lay(3, 2); draw(); win(0); lay(1, 57) = 1; ofPlayer(2, 7) = 1; hand(2) = SSSWWWWNNN; worth(2, 20) = 4");
        // NNN and NNNN that lie, of 3; EEEE and WWW that lie are not of 3
        Run.holds(wind,
            "lay(1, 46); many(3) = 11; draw(); discard(21); claim(3, 0, 0); four(20) = 11; four(19) = 11; hand(3) = 33b;",
            "win(3) = 8");
        Run.holds(wind,
            "lay(99, 24); many(3) = 8; draw(); discard(21); claim(3, 2, 0); four(22) = 6; hand(3) = 77dGGG; win(3) = 8");
        Run.holds(wind,
            "lay(1, 42); many(3) = 10; draw(); discard(20); claim(3, 0, 0); four(19) = 10; four(18) = 10; hand(3) = 22b;",
            "win(3) = 7");
    }

    private static void valueWithoutEnds() {
        String sentence = "1 without ENDS and HONOURS";
        // 1 and 9 dots, 1 and 9 bamboos as the only ones, beside 4 for one suit; 2 and 8 are none
        Run.holds(sentence, "lay(1, 0); hand(0) = 1111222233d; worth(0, 1) = 5; hand(1) = 3344445555d; worth(1, 1) = 6");
        Run.holds(sentence, "lay(1, 0); hand(2) = 6666777788d; worth(2, 8) = 5; worth(2, 4) = 6");
        Run.holds(sentence, "lay(1, 6); hand(3) = 1111222233b; worth(3, 10) = 5");
        Run.holds(sentence, "lay(1, 10); hand(3) = 2222333344b; worth(3, 10) = 6");
        Run.holds(sentence, "lay(1, 26); hand(3) = 6666777788b; worth(3, 17) = 5; worth(3, 13) = 6");
        // each of the HONOURS as the only one, beside 2 for THREES, and 1 for a dragon
        Run.holds(sentence, "lay(33, 19); hand(3) = 2233d222bEEE; worth(3, 1) = 3");
        Run.holds(sentence, "lay(33, 13); hand(0) = 3344d333bSSS; worth(0, 2) = 3");
        Run.holds(sentence, "lay(33, 17); hand(0) = 4455d444bWWW; worth(0, 3) = 3");
        Run.holds(sentence, "lay(33, 21); hand(0) = 5566d555bNNN; worth(0, 4) = 3");
        Run.holds(sentence, "lay(33, 25); hand(0) = 6677d666bRRR; worth(0, 5) = 4");
        Run.holds(sentence, "lay(33, 29); hand(0) = 7788d777bGGG; worth(0, 6) = 4");
        Run.holds(sentence, "lay(33, 35); hand(1) = 888d7788bHHH; worth(1, 15) = 4");
        // SETS that lie: 888b 7777b 6666b with 77d, two lucky ones and THREES; 1111d with 2222d 333d 22b, THREES
        Run.holds(sentence, "lay(1, 26); many(3) = 6; draw(); discard(16); claim(3, 0, 0); four(14) = 6; four(15) = 6; win(3) = 6");
        Run.holds(sentence,
            "lay(99, 40); many(3) = 12; draw(); discard(0); claim(3, 2, 0); four(1) = 10; hand(3) = 333d22b; win(3) = 3");
    }

    private static void valueOfThrees() {
        String sentence = "2, if all three SETS are THREES or FOURS";
        // 222 333 444 and 33 or 234 234 234: at the best way, THREES
        Run.holds("at the best way to part them",
            "lay(1, 1); hand(0) = 1112222333d; many(3) = 22; worth(0, 1) = 7; worth(0, 0) = 5");
        Run.holds("at the best way to part them",
            "lay(1, 5); hand(0) = 2223333444d; many(3) = 1; worth(0, 2) = 11; worth(0, 3) = 9");
        // a THREE, a closed and an open FOUR that lie
        Run.holds(sentence,
            "lay(1, 90); many(3) = 18; draw(); discard(7); claim(3, 0, 0); four(6); four(5); ofSet(3, 0) = 7; ofSet(3, 1) = 306;",
            "ofSet(3, 2) = 305; hand(3) = RR; win(3) = 5");
        Run.holds(sentence, "lay(99, 40); draw(); discard(0); claim(3, 2, 0); four(1); ofSet(3, 0) = 200; win(3) = 3");
        // 222d 11223bEE and 3b: four KINDS are there twice
        Run.holds(sentence,
            "lay(67, 98); draw(); discard(0); claim(1, 0, 0); discard(8); pass(); draw(); discard(18); hand(2) = 222d11223bEE;",
            "worth(2, 11) = 1");
        // 345d lies, as the rest would be THREES
        Run.holds(sentence, "lay(1, 0); draw(); discard(2); claim(1, 1, 2); discard(2); hand(1) = 3444555d; worth(1, 2) = 6");
    }

    private static void valueOfSuits() {
        String sentence = "4, if all is of one suit, or 2, if all is of one suit and HONOURS, with both";
        // dots; bamboos; both: one of dots alone, one of bamboos alone
        Run.holds(sentence, "lay(1, 0); worth(0, 0) = 5");
        Run.holds(sentence, "lay(1, 6); worth(3, 9) = 5");
        Run.holds(sentence, "lay(1, 3); hand(3) = 999d1111222b; many(3) = 22; worth(3, 11) = 1; worth(3, 9) = 3");
        Run.holds(sentence, "lay(1, 7); hand(2) = 788889999d1b; many(3) = 1; worth(2, 9) = 1");
        // a suit with winds, with dragons; HONOURS alone
        Run.holds(sentence, "lay(3, 48); hand(0) = 44567789bEE; worth(0, 12) = 3");
        Run.holds(sentence, "lay(1, 67); hand(3) = 1111222dHHH; many(3) = 16; worth(3, 2) = 4; worth(3, 0) = 6");
        Run.holds(sentence, "lay(1, 57); hand(2) = SSSWWWWNNN; worth(2, 20) = 4");
        // the 1 dot and the 9 bamboos as the only KIND of their suit, with HONOURS: the last one is a fifth TILE
        Run.holds(sentence, "lay(1, 63); hand(3) = 111dGGGHHHH; many(3) = 15; worth(3, 24) = 7");
        Run.holds(sentence, "lay(1, 39); hand(3) = 999bEEEESSS; many(3) = 0; worth(3, 18) = 5");
        // SETS that lie: of the same suit, of the other one, and of HONOURS
        Run.holds(sentence,
            "lay(99, 32); many(3) = 10; draw(); call(5); claim(1, 2, 0); four(4) = 8; hand(1) = 44499d; win(1) = 7");
        Run.holds(sentence,
            "lay(99, 68); many(3) = 19; draw(); discard(7); claim(3, 2, 0); four(8) = 17; hand(3) = 11199b; win(3) = 3");
        Run.holds(sentence,
            "lay(1, 42); draw(); discard(20); claim(3, 0, 0); four(19) = 10; four(18) = 10; hand(3) = 22b; win(3) = 7");
    }

    private static void valueOfCallsAndClosedHands() {
        Run.holds("1 more, if one had CALLED",
            "lay(1, 0); draw(); discard(10); worth(0, 0) = 5; pass(); draw(); call(10); worth(1, 1) = 7; discard(4) = STATE;",
            "pass(); worth(0, 0) = 5");
        Run.holds("1 more, if one had CALLED", "lay(1, 0); draw(); call(10); worth(0, 0) = 6; worth(1, 1) = 6");
        String sentence = "1, if it is by oneself without open SETS";
        Run.holds(sentence, "lay(3, 2); worth(0, 5) = 5; draw() = 5; win(0) = 6");
        // 4444d lies closed, 333d 555d 22b: without ENDS, THREES; with CALL
        Run.holds(sentence,
            "lay(1, 99); draw(); four(0); discard(9); pass(); draw(); four(3); discard(24); claim(0, 0, 0); discard(1);",
            "worth(1, 10) = 4; pass(); draw() = 10; win(1) = 5");
        Run.holds(sentence,
            "lay(3, 33); draw(); call(8); claim(3, 0, 7); discard(9); worth(0, 14) = 6; pass(); draw() = 14; win(0) = 7");
        // a THREE, a ROW and a FOUR that lie open
        Run.holds(sentence,
            "lay(67, 13); draw(); discard(12); claim(1, 0, 12); discard(13); claim(2, 0, 11); discard(21); claim(1, 2, 19);",
            "discard(11); worth(2, 15) = 1; pass(); draw() = 15; win(2) = 1");
        Run.holds(sentence,
            "lay(33, 72); draw(); discard(9); pass(); draw(); discard(6); claim(2, 1, 6); discard(16); claim(1, 0, 0); discard(0);",
            "worth(2, 14) = 2; pass(); draw() = 14; win(2) = 2");
        Run.holds(sentence, "lay(1, 53); draw(); discard(23); pass(); draw(); four(16); discard(15); claim(0, 2, 0); win(0) = 9");
    }

    private static void valueAtMost() {
        String sentence = "12 at most, together";
        // 11: three lucky ones, without ENDS, THREES, one suit
        Run.holds(sentence, "lay(1, 5); worth(0, 2) = 11");
        // 12: four lucky ones, without ENDS, THREES, one suit, by oneself with an open FOUR
        Run.holds(sentence,
            "lay(1, 49); many(3) = 12; draw(); four(13) = 12; discard(22); pass(); draw(); discard(14); claim(0, 2, 0);",
            "four(12) = 11; hand(0) = 33b; win(0) = 12; points(394, 202, 202, 202)");
        // 13: with a CALL, and three closed FOURS
        Run.holds(sentence,
            "lay(1, 10); many(3) = 2; draw(); four(3) = 2; four(4) = 2; four(2) = 1; call(12); claim(3, 0, 0); four(10) = 1;",
            "worth(0, 1) = 12; discard(1); win(0) = 12; points(394, 250, 250, 106)");
    }

    private static void payments() {
        Run.holds("By oneself each other one pays 4 times VALUE", "lay(3, 2); draw(); win(0) = 6; points(322, 226, 226, 226)");
        Run.holds("by a discard who discarded pays 12 times VALUE",
            "lay(3, 11); draw(); discard(2); win(3) = 5; points(190, 250, 250, 310)");
        String pot = "The winner gets that and the POT (that stays, as long as nobody wins)";
        Run.holds(pot,
            "lay(1, 0); draw(); call(10); pass(); draw(); call(10); pass(); turns(34); draw() = -1; points(250, 250, 260, 220);",
            "many(6) = 20; lay(1, 6) = 1; many(6) = 20; turns(36); draw() = -1; many(6) = 20; points(250, 250, 260, 220);",
            "lay(3, 2) = 2; many(6) = 20; draw(); discard(5); win(0) = 5; many(6) = 0; points(330, 250, 200, 220); lay(1, 0) = 3;",
            "many(6) = 0");
        // by oneself, with the own CALL in it
        Run.holds(pot,
            "lay(3, 33); draw(); call(8); claim(3, 0, 7); discard(9); pass(); many(6) = 10; draw(); win(0) = 7;",
            "points(334, 222, 222, 222); many(6) = 0");
        String left = "If nobody can draw in PHASE 0, at draw() each one who is not READY pays 10 to each one who is";
        // none, one, two, three and all four are READY
        Run.holds(left, "lay(7, 0); turns(36); draw() = -1; points(250, 250, 250, 250)");
        Run.holds(left, "lay(3, 23); turns(36); draw() = -1; points(280, 240, 240, 240)");
        Run.holds(left, "lay(3, 11); turns(36); draw() = -1; points(230, 270, 230, 270)");
        Run.holds(left, "lay(1, 0); turns(36); points(250, 250, 250, 250); draw() = -1; points(260, 260, 260, 220); many(9) = -1");
        Run.holds(left, "lay(1, 6); turns(36); draw() = -1; points(250, 250, 250, 250)");
        Run.holds("What was won by a discard leaves the RIVER, and is in the winner's hand",
            "lay(1, 0); turns(4); draw(); discard(2) = 2; seen(2) = 1; win(1); ofPlayer(0, 4) = 1; river(0, 0) = 10;",
            "river(0, 1) = INDEX; seen(2) = 0; has(1, 2) = 3; ofPlayer(1, 3) = 11");
    }

    private static void pointsBelow0() {
        String sentence = "POINTS are 250 each at first (they may be below 0)";
        Run.holds(sentence, BELOW_0, "lead(1) = -292.0; lead(0) = 392.0");
        // who has less than none pays as others do
        Run.holds(sentence, BELOW_0,
            "lay(3, 2) = 2; draw(); discard(5); win(0) = 5; lay(1, 10) = 3; draw(); win(3) = 7; points(674, -70, 26, 370)");
        // who has none may CALL as well, and pays as nobody can draw
        Run.holds(sentence, BELOW_0,
            "lay(1, 6) = 2; turns(3); draw() = 12; call(12) = -52; many(6) = 10; lead(1) = -299.5; pass(); turns(32); draw() = -1;",
            "points(642, -52, 114, 286)");
        Run.holds(sentence, BELOW_0,
            "lay(7, 0) = 2; turns(36); draw() = -1; ofPlayer(1, 0) = -42; lay(3, 23) = 3; turns(36); draw() = -1;",
            "ofPlayer(1, 0) = -52");
    }

    private static void whatStays() {
        // one ROUND with a CALL, a FOUR, a RIVER and a win by a discard: all of it can still be asked
        Run.holds("With that, or a win, the ROUND is over (PHASE 3); everything of it stays as it is until the next one",
            "lay(1, 0); draw(); call(10); pass(); draw(); four(3); discard(2); win(0) = 6; many(0) = 3; many(1) = -1;",
            "many(2) = 57; many(3) = 24; many(4) = -1; many(5) = 1; many(6) = 0; many(7) = 1; many(8) = 0; many(9) = 0;",
            "hand(0) = 11112222333d; ofPlayer(0, 5) = 1; ofPlayer(0, 6) = -1; ofPlayer(0, 7) = 0; ofPlayer(0, 8) = 1;",
            "river(0, 0) = 10; ofSet(1, 0) = 303; ofPlayer(1, 4) = 0; hand(1) = 35555d2bH; waits(2) = {4 5 6 7 8};",
            "worth(2, 4) = 6; isSafe(1, 10) = true; isSafe(1, 2) = false; seen(3) = 4; outs(2) = 10; best() = -1; lay(1, 0) = 1;",
            "many(2) = 60; many(5) = 0; many(9) = 0; hand(0) = 1111222233d; ofPlayer(0, 5) = 0; ofPlayer(0, 8) = 1;",
            "river(0, 0) = INDEX; ofSet(1, 0) = INDEX; seen(3) = 0; isSafe(1, 2) = true");
        Run.holds("everything of it stays as it is until the next one",
            "lay(3, 7); draw(); discard(7); pass(); turns(35); ofPlayer(0, 9) = 1; draw() = -1; ofPlayer(0, 9) = 1;",
            "ofPlayer(0, 4) = 9; river(0, 0) = 7; many(2) = 24; many(3) = 24; lay(3, 7) = 1; ofPlayer(0, 9) = 0;",
            "ofPlayer(0, 4) = 0");
    }

    private static void refusedCallsChangeNothing() {
        String sentence = "A method that throws an exception changes nothing";
        // two ROUNDS, the first of which is won by oneself
        Run.holdsUndisturbed(sentence, "lay(3, 2); draw(); win(0); lay(1, 5); draw(); discard(3); pass(); draw()");
        // a CALL, behind which only what was drawn is discarded, and a closed FOUR
        Run.holdsUndisturbed(sentence, "lay(1, 0); draw(); call(10); pass(); draw(); four(3); discard(2); pass();",
            "draw(); discard(10); pass(); draw(); discard(8); pass(); draw() = 11; discard(11)");
        // a win by what a FOUR drew, and the ROUND that follows
        Run.holdsUndisturbed(sentence, "lay(1, 53); draw(); discard(23); pass(); draw(); four(16); discard(15);",
            "claim(0, 2, 14); win(0) = 9; lay(7, 0); draw()");
        // a ROW, and a win by a discard
        Run.holdsUndisturbed(sentence, "lay(1, 0); draw(); discard(2); claim(1, 1, 2); discard(4); win(2) = 6;",
            "lay(3, 11); draw() = 7; discard(7)");
        // a win by oneself with a CALL
        Run.holdsUndisturbed(sentence, "lay(3, 33); draw(); call(8); claim(3, 0, 7); discard(9); pass(); draw(); win(0) = 7");
        // a hand that is COMPLETE by a claim
        Run.holdsUndisturbed(sentence, "lay(33, 75); draw(); discard(1); claim(1, 0, 0); discard(17); pass(); draw()");
    }

    // ---- the promises' own boundaries

    private static void layArguments() {
        for (int step = -3; step <= 103; step++) {
            boolean is = step >= 1 && step <= 99 && step % 2 != 0 && step % 5 != 0;
            Run.holds("if step is not 1 to 99, or 2 or 5 divides it", "lay(" + step + ", 0) = " + (is ? "0" : "ARGUMENT"));
        }
        for (int step : new int[] {MIN, MIN + 1, MAX - 1, MAX}) {
            Run.holds("if step is not 1 to 99, or 2 or 5 divides it", "lay(" + step + ", 0) = ARGUMENT");
        }
        for (int shift : new int[] {MIN, -1, 100, 101, MAX}) {
            Run.holds("or shift is not 0 to 99", "lay(1, " + shift + ") = ARGUMENT; lay(99, " + shift + ") = ARGUMENT; lay(1, 0) = 0");
        }
        Run.holds("shift is 0 to 99", "lay(1, 99) = 0; hand(0) = 111122223dH");
        Run.holds("shift is 0 to 99", "lay(99, 0) = 0; hand(0) = 1dRGGGGHHHH");
    }

    private static String with(int number, String text) {
        return text.replace("#", String.valueOf(number));
    }

    private static void wrongPlayers() {
        String calls = "claim(#, 0, 0) = INDEX; win(#) = INDEX; has(#, 0) = INDEX; ofPlayer(#, 0) = INDEX; ofSet(#, 0) = INDEX;"
            + "river(#, 0) = INDEX; waits(#) = INDEX; hand(#) = INDEX; lead(#) = INDEX; worth(#, 0) = INDEX;"
            + "isSafe(#, 0) = INDEX; outs(#) = INDEX;";
        for (int player : NO_PLAYERS) {
            Run.holds("if player is not 0 to 3", with(player, calls));
            Run.holds("if player is not 0 to 3", "lay(1, 0); draw(); discard(2);", with(player, calls));
        }
        Run.holds("player is 0 to 3",
            "lay(1, 0); draw(); discard(10); has(0, 0) = 4; has(3, 8) = 4; ofPlayer(0, 7) = 0; ofPlayer(3, 7) = 3;",
            "river(0, 0) = 10; waits(0) = {0 1 2 3}; waits(3) = {}; hand(0) = 1111222233d; hand(3) = 889999d1111b; lead(0) = 0.0;",
            "lead(3) = 0.0; worth(0, 0) = 5; worth(3, 0) = -1; isSafe(0, 0) = true; isSafe(3, 0) = true; outs(0) = 6;",
            "outs(3) = 13");
    }

    private static void wrongKinds() {
        String calls = "discard(#) = ARGUMENT; call(#) = ARGUMENT; four(#) = ARGUMENT; has(0, #) = ARGUMENT; has(3, #) = ARGUMENT;"
            + "seen(#) = ARGUMENT; worth(1, #) = ARGUMENT; isSafe(0, #) = ARGUMENT;";
        for (int kind : NO_KINDS) {
            Run.holds("if kind is not 0 to 24", "lay(1, 0); draw();", with(kind, calls));
        }
    }

    private static void wrongWhats() {
        for (int what : new int[] {MIN, -1, 10, 11, MAX}) {
            String calls = with(what, "ofPlayer(0, #) = ARGUMENT; ofPlayer(3, #) = ARGUMENT; many(#) = ARGUMENT;");
            Run.holds("if what is not 0 to 9", calls, "lay(1, 0);", calls);
        }
        for (int what : new int[] {MIN, -1, 3, 4, MAX}) {
            Run.holds("if what is not 0 to 2",
                with(what, "lay(33, 3); draw(); discard(16); claim(1, #, 16) = ARGUMENT; claim(1, 2, 16) = 1"));
        }
    }

    private static void firstNamedException() {
        String sentence = "If several exceptions apply, the one that is named first is thrown";
        String[] phases = {"", "lay(1, 0);", "lay(1, 0); draw();", "lay(1, 0); draw(); discard(2);", "lay(3, 2); draw(); win(0);"};
        String ofKinds = "discard(#) = ARGUMENT; call(#) = ARGUMENT; four(#) = ARGUMENT; has(-1, #) = INDEX; has(4, #) = INDEX;"
            + "worth(-1, #) = INDEX; worth(4, #) = INDEX; isSafe(-1, #) = INDEX; isSafe(4, #) = INDEX;";
        for (String phase : phases) {
            Run.holds(sentence, phase, "lay(0, 0) = ARGUMENT; lay(1, 100) = ARGUMENT; lay(2, -1) = ARGUMENT");
            for (int kind : NO_KINDS) {
                Run.holds(sentence, phase, with(kind, ofKinds));
            }
            Run.holds(sentence, phase,
                "claim(-1, 3, 0) = INDEX; claim(4, -1, 0) = INDEX; claim(4, 0, 0) = INDEX; claim(0, 3, 0) = ARGUMENT;",
                "claim(3, -1, 0) = ARGUMENT; win(-1) = INDEX; win(4) = INDEX; ofPlayer(-1, 10) = INDEX; ofPlayer(4, -1) = INDEX;",
                "ofSet(4, -1) = INDEX; river(-1, -1) = INDEX");
        }
    }

    private static void aheadOfTheFirstRound() {
        String sentence = "ahead of the first ROUND there is nothing but POINTS";
        String ofOne = "ofPlayer(#, 0) = 250; ofPlayer(#, 1) = 0; ofPlayer(#, 2) = 0; ofPlayer(#, 3) = 0; ofPlayer(#, 4) = 0;"
            + "ofPlayer(#, 5) = 0; ofPlayer(#, 6) = 6; ofPlayer(#, 7) = -1; ofPlayer(#, 8) = 0; ofPlayer(#, 9) = 0;"
            + "has(#, 0) = 0; has(#, 24) = 0; ofSet(#, 0) = INDEX; river(#, 0) = INDEX; waits(#) = {}; hand(#) =; lead(#) = 0.0;"
            + "worth(#, 0) = -1; worth(#, 24) = -1; isSafe(#, 0) = true; isSafe(#, 24) = true; outs(#) = 0;";
        Run.holds(sentence, with(0, ofOne), with(1, ofOne), with(2, ofOne), with(3, ofOne));
        Run.holds("NONE ahead of the first ROUND",
            "many(0) = 3; many(1) = -1; many(2) = 0; many(3) = -1; many(4) = -1; many(5) = 0; many(6) = 0; many(7) = 0;",
            "many(8) = -1; many(9) = -1; best() = -1; seen(0) = 0; seen(24) = 0; onlyPhase(3); lay(1, 0) = 0");
    }

    private static void setsAndPlaces() {
        String sets = "or there is no such SET";
        for (int set : new int[] {MIN, -1, 2, 3, MAX}) {
            Run.holds(sets, "lay(1, 0); draw(); four(0); four(1); ofSet(0, 0) = 300; ofSet(0, 1) = 301; ofSet(1, 0) = INDEX;",
                with(set, "ofSet(0, #) = INDEX"));
        }
        Run.holds(sets,
            "lay(1, 78); draw(); four(20); four(21); four(19); ofSet(0, 0) = 320; ofSet(0, 1) = 321; ofSet(0, 2) = 319;",
            "ofSet(0, 3) = INDEX");
        Run.holds("Returns its smallest KIND, and 100 more for a ROW, 200 for an open FOUR, 300 for a closed one",
            "lay(99, 40); draw(); discard(0); claim(3, 2, 0); four(1); ofSet(3, 0) = 200; ofSet(3, 1) = 301");
        String places = "or there is no such place";
        // a RIVER that is empty: at first, and behind a claim
        Run.holds(places,
            "lay(1, 0); river(0, 0) = INDEX; draw(); discard(2); river(0, 0) = 2; river(0, 1) = INDEX; claim(1, 0, 0);",
            "river(0, 0) = INDEX");
        for (int place : new int[] {MIN, -1, 2, 63, 64, MAX}) {
            Run.holds(places, "lay(1, 0); turns(4); draw(); discard(11); river(0, 0) = 10; river(0, 1) = 11;",
                with(place, "river(0, #) = INDEX; river(1, 0) = 10; river(1, 1) = INDEX"));
        }
        // the longest RIVERS without claims
        Run.holds(places,
            "lay(1, 0); turns(36); ofPlayer(0, 4) = 9; river(0, 8) = 18; river(0, 9) = INDEX; river(3, 8) = 18;",
            "river(3, 9) = INDEX");
    }

    private static void hands() {
        String sentence = "without dots there is no \"d\", without bamboos no \"b\"";
        Run.holds(sentence, "hand(0) =; lay(1, 0); hand(0) = 1111222233d; hand(3) = 889999d1111b");
        Run.holds(sentence, "lay(1, 36); hand(0) = 1111222233b");
        Run.holds(sentence, "lay(1, 68); hand(0) = 9999bEEEESS; hand(1) = SSWWWWNNNN; hand(2) = RRRRGGGGHH; hand(3) = 11112222dHH");
        Run.holds("letters \"E\", \"S\", \"W\", \"N\", \"R\", \"G\", \"H\" (white)", "lay(3, 9); hand(2) = 9bEESWNNRGH");
        // one TILE beside three SETS
        Run.holds("Returns the hand (not SETS that lie)",
            "lay(1, 78); draw(); four(20); four(21); four(19); hand(0) = 5dE; discard(4); hand(0) = E");
    }

    private static void asked() {
        Run.holds("4 the KIND that was discarded last in PHASE 2 (NONE, if it is not PHASE 2)",
            "many(4) = -1; lay(1, 0); many(4) = -1; draw(); many(4) = -1; discard(0); many(4) = 0; pass(); many(4) = -1; draw();",
            "discard(10); many(4) = 10");
        Run.holds("1 whose TURN it is (in PHASE 2 that of who discarded; NONE in PHASE 3)",
            "many(1) = -1; lay(1, 0); many(1) = 0; turns(1); draw(); discard(10); many(1) = 1; pass(); many(1) = 2; draw();",
            "discard(6); claim(1, 0, 0) = STATE; many(1) = 2");
        Run.holds("9 who won the last ROUND that is over (NONE, if nobody did, or none is)",
            "many(9) = -1; lay(3, 2); many(9) = -1; draw(); win(0); many(9) = 0; lay(7, 0); many(9) = 0; turns(36); many(9) = 0;",
            "draw() = -1; many(9) = -1; lay(1, 0); many(9) = -1");
        Run.holds("Returns POINTS of that one less the mean of all four, not cut",
            "lay(1, 0); draw(); call(10); lead(0) = -7.5; lead(1) = 2.5; pass(); draw(); call(10); lead(0) = -5.0; lead(2) = 5.0");
        Run.holds("Returns how many TILES of it lie, in SETS and in RIVERS",
            "lay(1, 0); turns(4); seen(10) = 4; turns(1); seen(11) = 1; draw(); discard(4) = 2; seen(4) = 1");
        Run.holds("NONE, if the hand does not WAIT for it",
            "lay(1, 0); worth(0, 3) = 5; worth(0, 4) = -1; worth(0, 24) = -1; worth(1, 0) = -1; worth(1, 1) = 6; worth(3, 8) = -1");
        Run.holds("(whatever that PLAYER discarded, and whatever is left of it)",
            "lay(3, 7); draw(); discard(3); worth(0, 3) = 5; worth(0, 0) = 5");
    }

    private static void bestOfSeveral() {
        Run.holds("NONE, if it is not PHASE 1",
            "best() = -1; lay(1, 0); best() = -1; draw(); best() = 10; discard(10); best() = -1; pass(); best() = -1");
        Run.holds("NONE, if it is not PHASE 1", "lay(3, 2); draw(); best() = 0; win(0); best() = -1");
        Run.holds("of several that of which the fewest are in hand",
            "lay(1, 0); draw(); discard(2); claim(1, 0, 0); hand(1) = 44445555d; best() = 3; discard(3); best() = -1");
        Run.holds("then the smallest number", "lay(7, 0); draw(); hand(0) = 124689d2467bW; best() = 0");
        Run.holds("(whether it can be discarded or not)",
            "lay(1, 0); draw(); call(2); pass(); turns(3); draw() = 11; best() = 10; discard(10) = STATE");
    }

    private static void safeTiles() {
        String sentence = "(true, if nobody else CALLED)";
        Run.holds(sentence,
            "lay(1, 0); isSafe(0, 0) = true; draw(); call(10); isSafe(0, 0) = true; isSafe(0, 10) = true; isSafe(1, 0) = false;",
            "isSafe(3, 24) = false; isSafe(1, 10) = true");
        String each = "Returns whether each other PLAYER who CALLED discarded that KIND in this ROUND";
        // 0 discarded 3d and a bamboo, 2 the bamboo only; the claimed 3d count
        Run.holds(each,
            "lay(1, 0); draw(); call(2); claim(1, 0, 0); isSafe(1, 2) = true; discard(4); pass(); draw(); call(10);",
            "isSafe(1, 2) = false; isSafe(1, 10) = false; isSafe(0, 10) = true; isSafe(2, 2) = true; isSafe(0, 2) = false");
        // the first and the last PLAYER, too
        Run.holds(each,
            "lay(1, 6); draw(); call(11); pass(); turns(2); draw() = 12; call(12) = 240; isSafe(0, 12) = true; isSafe(0, 11) = false;",
            "isSafe(3, 11) = true; isSafe(3, 12) = false; isSafe(1, 11) = false; isSafe(1, 12) = false");
        // 1 discarded it, but did not CALL
        Run.holds(each, "lay(1, 0); draw(); call(10); pass(); draw(); discard(3); isSafe(2, 3) = false; isSafe(0, 3) = true");
    }

    private static void outs() {
        String sentence = "Returns how many TILES, of those that are neither in that hand, nor lie in SETS or RIVERS";
        // 2d to 6d are waited for by 3344445555d: 4, 2, 0, 0 and 4
        Run.holds(sentence,
            "lay(1, 0); outs(1) = 10; draw(); discard(1); outs(1) = 9; pass(); draw(); discard(10); pass(); draw(); discard(5);",
            "outs(1) = 8");
        // what others have in hand counts: four 5d, four 9d, and two 8d beside the own ones
        Run.holds(sentence, "lay(1, 0); waits(2) = {4 5 6 7 8}; has(1, 4) = 4; has(3, 8) = 4; outs(2) = 10");
        Run.holds("(0 with a TILE too many)", "lay(1, 0); draw(); outs(0) = 0; outs(1) = 10; discard(10); outs(0) = 6");
    }

    private static void digests() {
        // by hand: 58317, and 31 times it with each of the numbers of a new object, which wraps around
        long d = 58317;
        long[] many = {3, -1, 0, -1, -1, 0, 0, 0, -1, -1};
        long[] ofPlayer = {250, 0, 0, 0, 0, 0, 6, -1, 0, 0};
        for (long v : many) {
            d = d * 31 + v;
        }
        for (int p = 0; p < 4; p++) {
            for (long v : ofPlayer) {
                d = d * 31 + v;
            }
            // 25 KINDS, waits() and lead()
            for (int i = 0; i < 27; i++) {
                d = d * 31;
            }
        }
        d = d * 31 - 1;
        Run.holds("which wraps around as a 64-bit integer", "digest() = " + d);
        // with POINTS below 0, SETS and RIVERS
        Run.holds("Computes a checksum",
            "lay(1, 0); draw(); call(10); pass(); draw(); four(3); discard(2); digest() = 4516934547025753837; win(0);",
            "digest() = -1715190589579116874");
        Run.holds("Computes a checksum", BELOW_0,
            "digest() = -4518108953779577847; lay(7, 0); draw(); digest() = -6159498691454988901");
    }
}
