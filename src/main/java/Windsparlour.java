/** A parlour where four play with tiles of two suits, winds and dragons. */
public final class Windsparlour {
    private static final int NONE = -1;
    private static final int PLAYERS = 4;
    private static final int KINDS = 25;
    private static final int SUIT = 9;
    private static final int HONOURS = 18;
    private static final int DRAGONS = 22;
    private static final int SETS = 3;
    private static final int HAND = 10;

    private static final int WALL = 100;
    private static final int DEALT = 40;
    private static final int NEVER_DRAWN = 24;
    private static final int LUCKY_PLACE = 95;
    private static final int MOST_FOURS = 4;

    private static final int DRAWING = 0;
    private static final int DISCARDING = 1;
    private static final int CLAIMING = 2;
    private static final int RESTING = 3;

    private static final int THREE = 0;
    private static final int ROW = 1;
    private static final int FOUR = 2;
    private static final int CLOSED_FOUR = 3;

    private static final int START_POINTS = 250;
    private static final int CALL_PRICE = 10;
    private static final int UNREADY_PRICE = 10;
    private static final int SHARE = 4;
    private static final int MOST_VALUE = 12;
    private static final long DIGEST_START = 58317L;

    private final Seat[] seats = new Seat[PLAYERS];
    private final Parting parting = new Parting();
    private final Valuing valuing = new Valuing();
    private int step = 1;
    private int shift = 0;
    private int drawn = 0;
    private int fours = 0;
    private int phase = RESTING;
    private int turn = 0;
    private int dealer = NONE;
    private int rounds = 0;
    private int pot = 0;
    private int luckyKind = NONE;
    private int lastWinner = NONE;
    private int lastDrawn = NONE;
    private boolean drewLatest = false;

    public Windsparlour() {
        for (int p = 0; p < PLAYERS; p++) {
            seats[p] = new Seat();
        }
    }

    // ---- playing

    public int lay(int step, int shift) throws IllegalArgumentException, IllegalStateException {
        if (step < 1 || step >= WALL || step % 2 == 0 || step % 5 == 0 || shift < 0 || shift >= WALL) {
            throw new IllegalArgumentException("no such step or shift");
        }
        requirePhase(RESTING);
        this.step = step;
        this.shift = shift;
        beginRound();
        for (int p = 0; p < PLAYERS; p++) {
            dealTo(p);
        }
        luckyKind = follower(kindAt(LUCKY_PLACE));
        return dealer;
    }

    public int draw() throws IllegalStateException {
        requirePhase(DRAWING);
        if (!canDraw()) {
            endWithoutWinner();
            return NONE;
        }
        int kind = kindAt(DEALT + drawn);
        drawn++;
        phase = DISCARDING;
        receive(kind);
        return kind;
    }

    public int discard(int kind) throws IllegalArgumentException, IllegalStateException {
        requireKind(kind);
        requirePhase(DISCARDING);
        Seat seat = seatInTurn();
        if (seat.count(kind) == 0 || (seat.called && kind != lastDrawn)) {
            throw new IllegalStateException("that tile cannot be discarded");
        }
        layIntoRiver(seat, kind);
        return seat.riverMany;
    }

    public int call(int kind) throws IllegalArgumentException, IllegalStateException {
        requireKind(kind);
        requirePhase(DISCARDING);
        Seat seat = seatInTurn();
        if (seat.called || seat.openSets() > 0 || seat.count(kind) == 0 || !readyWithout(seat, kind)) {
            throw new IllegalStateException("that hand cannot be called");
        }
        seat.points -= CALL_PRICE;
        pot += CALL_PRICE;
        seat.called = true;
        layIntoRiver(seat, kind);
        return seat.points;
    }

    public int claim(int player, int what, int low)
            throws IndexOutOfBoundsException, IllegalArgumentException, IllegalStateException {
        requirePlayer(player);
        if (what < THREE || what > FOUR) {
            throw new IllegalArgumentException("no such claim");
        }
        if (!mayClaim(player, what, low)) {
            throw new IllegalStateException("that cannot be claimed");
        }
        Seat seat = seats[player];
        int kind = seatInTurn().leaveRiver();
        turn = player;
        phase = DISCARDING;
        drewLatest = false;
        seat.change(kind, 1);
        seat.laySet(what, what == ROW ? low : kind);
        if (what == FOUR) {
            drawForFour();
        }
        return seat.setsMany;
    }

    public int four(int kind) throws IllegalArgumentException, IllegalStateException {
        requireKind(kind);
        requirePhase(DISCARDING);
        Seat seat = seatInTurn();
        if (seat.called || seat.count(kind) < 4 || !fourAllowed()) {
            throw new IllegalStateException("no closed four of that kind");
        }
        seat.laySet(CLOSED_FOUR, kind);
        return drawForFour();
    }

    public int pass() throws IllegalStateException {
        requirePhase(CLAIMING);
        turn = (turn + 1) % PLAYERS;
        phase = DRAWING;
        return turn;
    }

    public int win(int player) throws IndexOutOfBoundsException, IllegalStateException {
        requirePlayer(player);
        boolean alone = phase == DISCARDING;
        if (!(alone ? winsAlone(player) : winsByDiscard(player))) {
            throw new IllegalStateException("that is no win");
        }
        Seat winner = seats[player];
        if (!alone) {
            winner.change(seatInTurn().leaveRiver(), 1);
        }
        int value = valuing.value(winner, alone, luckyKind, windOf(player));
        payWin(player, alone, value);
        winner.wins++;
        lastWinner = player;
        phase = RESTING;
        return value;
    }

    // ---- what is asked

    public int has(int player, int kind) throws IndexOutOfBoundsException, IllegalArgumentException {
        requirePlayer(player);
        requireKind(kind);
        return seats[player].count(kind);
    }

    public int ofPlayer(int player, int what) throws IndexOutOfBoundsException, IllegalArgumentException {
        requirePlayer(player);
        Seat seat = seats[player];
        switch (what) {
            case 0:
                return seat.points;
            case 1:
                return seat.setsMany;
            case 2:
                return seat.openSets();
            case 3:
                return seat.inHand();
            case 4:
                return seat.riverMany;
            case 5:
                return seat.called ? 1 : 0;
            case 6:
                return parting.far(seat.tiles, seat.setsMany);
            case 7:
                return windOf(player);
            case 8:
                return seat.wins;
            case 9:
                return (waitsOf(seat) & seat.discarded) != 0 ? 1 : 0;
            default:
                throw new IllegalArgumentException("no such number of a player");
        }
    }

    public int ofSet(int player, int set) throws IndexOutOfBoundsException {
        requirePlayer(player);
        Seat seat = seats[player];
        if (set < 0 || set >= seat.setsMany || set >= SETS) {
            throw new IndexOutOfBoundsException("no such set");
        }
        return seat.sets[set];
    }

    public int river(int player, int place) throws IndexOutOfBoundsException {
        requirePlayer(player);
        Seat seat = seats[player];
        if (place < 0 || place >= seat.riverMany || place >= Seat.RIVER_PLACES) {
            throw new IndexOutOfBoundsException("no such place");
        }
        return seat.river[place];
    }

    public long waits(int player) throws IndexOutOfBoundsException {
        requirePlayer(player);
        return waitsOf(seats[player]);
    }

    public int seen(int kind) throws IllegalArgumentException {
        requireKind(kind);
        int many = 0;
        for (int p = 0; p < PLAYERS; p++) {
            many += seats[p].lying(kind);
        }
        return many;
    }

    public String hand(int player) throws IndexOutOfBoundsException {
        requirePlayer(player);
        Seat seat = seats[player];
        StringBuilder text = new StringBuilder();
        writeSuit(text, seat, 0, 'd');
        writeSuit(text, seat, SUIT, 'b');
        writeHonours(text, seat);
        return text.toString();
    }

    public int many(int what) throws IllegalArgumentException {
        switch (what) {
            case 0:
                return phase;
            case 1:
                return phase == RESTING ? NONE : turn;
            case 2:
                return tilesLeft();
            case 3:
                return luckyKind;
            case 4:
                return phase == CLAIMING ? seatInTurn().latestInRiver() : NONE;
            case 5:
                return fours;
            case 6:
                return pot;
            case 7:
                return rounds;
            case 8:
                return dealer;
            case 9:
                return lastWinner;
            default:
                throw new IllegalArgumentException("no such number");
        }
    }

    public double lead(int player) throws IndexOutOfBoundsException {
        requirePlayer(player);
        return fourLeads(player) / 4.0;
    }

    // ---- what would be (nothing is changed)

    public int worth(int player, int kind) throws IndexOutOfBoundsException, IllegalArgumentException {
        requirePlayer(player);
        requireKind(kind);
        Seat seat = seats[player];
        if ((waitsOf(seat) >> kind & 1L) == 0) {
            return NONE;
        }
        seat.change(kind, 1);
        int value = valuing.value(seat, false, luckyKind, windOf(player));
        seat.change(kind, -1);
        return value;
    }

    public int best() {
        if (phase != DISCARDING) {
            return NONE;
        }
        Seat seat = seatInTurn();
        int best = NONE;
        int bestFar = 0;
        for (int kind = 0; kind < KINDS; kind++) {
            if (seat.count(kind) > 0) {
                int far = farWith(seat, kind, -1);
                boolean fewer = best != NONE && seat.count(kind) < seat.count(best);
                if (best == NONE || far < bestFar || (far == bestFar && fewer)) {
                    best = kind;
                    bestFar = far;
                }
            }
        }
        return best;
    }

    public boolean isSafe(int player, int kind) throws IndexOutOfBoundsException, IllegalArgumentException {
        requirePlayer(player);
        requireKind(kind);
        for (int p = 0; p < PLAYERS; p++) {
            if (p != player && seats[p].called && (seats[p].discarded >> kind & 1L) == 0) {
                return false;
            }
        }
        return true;
    }

    public int outs(int player) throws IndexOutOfBoundsException {
        requirePlayer(player);
        Seat seat = seats[player];
        if (seat.size() > HAND) {
            return 0;
        }
        int far = parting.far(seat.tiles, seat.setsMany);
        int outs = 0;
        for (int kind = 0; kind < KINDS; kind++) {
            int unseen = 4 - seat.count(kind) - seen(kind);
            if (unseen > 0 && farWith(seat, kind, 1) < far) {
                outs += unseen;
            }
        }
        return outs;
    }

    public long digest() {
        long d = DIGEST_START;
        for (int what = 0; what <= 9; what++) {
            d = d * 31 + many(what);
        }
        for (int p = 0; p < PLAYERS; p++) {
            d = digestPlayer(d, p);
        }
        return d * 31 + best();
    }

    // ---- below: what only this class uses

    private static void requirePlayer(int player) {
        if (player < 0 || player >= PLAYERS) {
            throw new IndexOutOfBoundsException("no such player");
        }
    }

    private static void requireKind(int kind) {
        if (kind < 0 || kind >= KINDS) {
            throw new IllegalArgumentException("no such kind");
        }
    }

    private void requirePhase(int wanted) {
        if (phase != wanted) {
            throw new IllegalStateException("not in this phase");
        }
    }

    private Seat seatInTurn() {
        // the test keeps the index in sight: it is one of the four at any time
        return turn >= 0 && turn < PLAYERS ? seats[turn] : seats[0];
    }

    private static boolean startsRow(int kind) {
        return kind >= 0 && kind < HONOURS && kind % SUIT <= SUIT - 3;
    }

    private void beginRound() {
        dealer = (dealer + 1) % PLAYERS;
        rounds++;
        turn = dealer;
        phase = DRAWING;
        drawn = 0;
        fours = 0;
        lastDrawn = NONE;
        drewLatest = false;
    }

    private void dealTo(int player) {
        Seat seat = seats[player];
        seat.clear();
        for (int t = 0; t < HAND; t++) {
            seat.change(kindAt(HAND * player + t), 1);
        }
    }

    private int kindAt(int place) {
        return (step * place + shift) % WALL / 4;
    }

    private static int follower(int kind) {
        if (kind < HONOURS) {
            return kind % SUIT == SUIT - 1 ? kind - SUIT + 1 : kind + 1;
        }
        if (kind < DRAGONS) {
            return kind == DRAGONS - 1 ? HONOURS : kind + 1;
        }
        return kind == KINDS - 1 ? DRAGONS : kind + 1;
    }

    private int tilesLeft() {
        return rounds == 0 ? 0 : WALL - DEALT - drawn - fours;
    }

    private boolean canDraw() {
        return tilesLeft() > NEVER_DRAWN;
    }

    private boolean fourAllowed() {
        return fours < MOST_FOURS && canDraw();
    }

    private int drawForFour() {
        int kind = kindAt(WALL - 1 - fours);
        fours++;
        receive(kind);
        return kind;
    }

    private void receive(int kind) {
        seatInTurn().change(kind, 1);
        lastDrawn = kind;
        drewLatest = true;
    }

    private void layIntoRiver(Seat seat, int kind) {
        seat.toRiver(kind);
        phase = CLAIMING;
    }

    private boolean mayClaim(int player, int what, int low) {
        if (phase != CLAIMING || player == turn || seats[player].called) {
            return false;
        }
        Seat seat = seats[player];
        int kind = seatInTurn().latestInRiver();
        if (what == ROW) {
            return player == (turn + 1) % PLAYERS && completesRow(seat, kind, low);
        }
        if (what == FOUR) {
            return seat.count(kind) >= 3 && fourAllowed();
        }
        return seat.count(kind) >= 2;
    }

    private static boolean completesRow(Seat seat, int kind, int low) {
        // low is compared first: behind it the sums below cannot wrap around
        if (!startsRow(low) || kind < low || kind > low + 2) {
            return false;
        }
        for (int k = low; k <= low + 2; k++) {
            if (k != kind && seat.count(k) == 0) {
                return false;
            }
        }
        return true;
    }

    private boolean winsAlone(int player) {
        Seat seat = seats[player];
        return player == turn && drewLatest && seat.size() == HAND + 1 && parting.complete(seat.tiles);
    }

    private boolean winsByDiscard(int player) {
        if (phase != CLAIMING || player == turn) {
            return false;
        }
        Seat seat = seats[player];
        long waiting = waitsOf(seat);
        int kind = seatInTurn().latestInRiver();
        return kind >= 0 && (waiting >> kind & 1L) == 1 && (waiting & seat.discarded) == 0;
    }

    private void payWin(int player, boolean alone, int value) {
        if (alone) {
            for (int p = 0; p < PLAYERS; p++) {
                seats[p].points -= SHARE * value;
            }
            // the winner paid with the others just now, and gets that back
            seats[player].points += PLAYERS * SHARE * value;
        } else {
            seatInTurn().points -= (PLAYERS - 1) * SHARE * value;
            seats[player].points += (PLAYERS - 1) * SHARE * value;
        }
        seats[player].points += pot;
        pot = 0;
    }

    private void endWithoutWinner() {
        int ready = 0;
        for (int p = 0; p < PLAYERS; p++) {
            ready += waitsOf(seats[p]) != 0 ? 1 : 0;
        }
        for (int p = 0; p < PLAYERS; p++) {
            boolean isReady = waitsOf(seats[p]) != 0;
            seats[p].points += UNREADY_PRICE * (isReady ? PLAYERS - ready : -ready);
        }
        lastWinner = NONE;
        phase = RESTING;
    }

    private int windOf(int player) {
        return dealer == NONE ? NONE : (player - dealer + PLAYERS) % PLAYERS;
    }

    private long waitsOf(Seat seat) {
        if (seat.size() != HAND) {
            return 0;
        }
        long waiting = 0;
        for (int kind = 0; kind < KINDS; kind++) {
            seat.change(kind, 1);
            if (parting.complete(seat.tiles)) {
                waiting |= 1L << kind;
            }
            seat.change(kind, -1);
        }
        return waiting;
    }

    private boolean readyWithout(Seat seat, int kind) {
        seat.change(kind, -1);
        boolean ready = waitsOf(seat) != 0;
        seat.change(kind, 1);
        return ready;
    }

    private int farWith(Seat seat, int kind, int by) {
        seat.change(kind, by);
        int far = parting.far(seat.tiles, seat.setsMany);
        seat.change(kind, -by);
        return far;
    }

    private int fourLeads(int player) {
        int sum = 0;
        for (int p = 0; p < PLAYERS; p++) {
            sum += seats[p].points;
        }
        return 4 * seats[player].points - sum;
    }

    private static void writeSuit(StringBuilder text, Seat seat, int first, char letter) {
        int before = text.length();
        for (int number = 1; number <= SUIT; number++) {
            for (int i = seat.count(first + number - 1); i > 0; i--) {
                text.append(number);
            }
        }
        if (text.length() > before) {
            text.append(letter);
        }
    }

    private static void writeHonours(StringBuilder text, Seat seat) {
        String letters = "ESWNRGH";
        for (int at = 0; at < letters.length(); at++) {
            for (int i = seat.count(HONOURS + at); i > 0; i--) {
                text.append(letters.charAt(at));
            }
        }
    }

    private long digestPlayer(long before, int player) {
        Seat seat = seats[player];
        long d = before;
        for (int what = 0; what <= 9; what++) {
            d = d * 31 + ofPlayer(player, what);
        }
        for (int kind = 0; kind < KINDS; kind++) {
            d = d * 31 + seat.count(kind);
        }
        for (int set = 0; set < seat.setsMany && set < SETS; set++) {
            d = d * 31 + seat.sets[set];
        }
        for (int place = 0; place < seat.riverMany && place < Seat.RIVER_PLACES; place++) {
            d = d * 31 + seat.river[place];
        }
        d = d * 31 + waitsOf(seat);
        return d * 31 + fourLeads(player);
    }

    /** What one PLAYER has. */
    private static final class Seat {
        // 36 draws and 12 claims a round at most: no river gets longer than 48
        static final int RIVER_PLACES = 64;

        final int[] tiles = new int[KINDS];
        // as ofSet tells them: the smallest kind, and 100 times the form
        final int[] sets = new int[SETS];
        final int[] river = new int[RIVER_PLACES];
        // kept beside the river, as what is claimed leaves that
        long discarded = 0;
        int setsMany = 0;
        int riverMany = 0;
        boolean called = false;
        int points = START_POINTS;
        int wins = 0;

        void clear() {
            for (int k = 0; k < KINDS; k++) {
                tiles[k] = 0;
            }
            discarded = 0;
            setsMany = 0;
            riverMany = 0;
            called = false;
        }

        int count(int kind) {
            return kind >= 0 && kind < KINDS ? tiles[kind] : 0;
        }

        void change(int kind, int by) {
            if (kind >= 0 && kind < KINDS) {
                tiles[kind] += by;
            }
        }

        int inHand() {
            int many = 0;
            for (int k = 0; k < KINDS; k++) {
                many += tiles[k];
            }
            return many;
        }

        /** The TILES of the hand with the SETS that lie, each of which counts 3. */
        int size() {
            return inHand() + 3 * setsMany;
        }

        int openSets() {
            int many = 0;
            for (int s = 0; s < setsMany && s < SETS; s++) {
                many += sets[s] / 100 == CLOSED_FOUR ? 0 : 1;
            }
            return many;
        }

        boolean rowLies() {
            for (int s = 0; s < setsMany && s < SETS; s++) {
                if (sets[s] / 100 == ROW) {
                    return true;
                }
            }
            return false;
        }

        int inSets(int kind) {
            int many = 0;
            for (int s = 0; s < setsMany && s < SETS; s++) {
                many += Seat.tilesOf(sets[s] / 100, sets[s] % 100, kind);
            }
            return many;
        }

        int lying(int kind) {
            int many = inSets(kind);
            for (int i = 0; i < riverMany && i < RIVER_PLACES; i++) {
                many += river[i] == kind ? 1 : 0;
            }
            return many;
        }

        /** How many TILES of a KIND a SET of a form takes. */
        static int tilesOf(int form, int low, int kind) {
            if (form == ROW) {
                return kind >= low && kind <= low + 2 ? 1 : 0;
            }
            if (kind != low) {
                return 0;
            }
            return form == THREE ? 3 : 4;
        }

        void laySet(int form, int low) {
            if (setsMany < 0 || setsMany >= SETS) {
                return;
            }
            for (int k = 0; k < KINDS; k++) {
                tiles[k] -= Seat.tilesOf(form, low, k);
            }
            sets[setsMany] = 100 * form + low;
            setsMany++;
        }

        void toRiver(int kind) {
            if (riverMany < 0 || riverMany >= RIVER_PLACES) {
                return;
            }
            change(kind, -1);
            river[riverMany] = kind;
            riverMany++;
            discarded |= 1L << kind;
        }

        int latestInRiver() {
            return riverMany > 0 && riverMany <= RIVER_PLACES ? river[riverMany - 1] : NONE;
        }

        int leaveRiver() {
            int kind = latestInRiver();
            if (riverMany > 0) {
                riverMany--;
            }
            return kind;
        }
    }

    /** How the TILES in a hand part; its rows are made once and used again. */
    private static final class Parting {
        // a THREE, a ROW, a PAIR, a TWO of neighbours and a TWO with a gap:
        // what each takes of its smallest kind, of the next one and of the one behind that
        private static final int[] AT_LOW = {3, 1, 2, 1, 1};
        private static final int[] AT_NEXT = {0, 1, 0, 1, 0};
        private static final int[] AT_THIRD = {0, 1, 0, 0, 1};
        private static final int FORMS = 5;

        private final int[] rest = new int[KINDS];
        // what the parts make together, by how many parts there are, at most:
        // a SET counts 2, a PAIR or TWO 1, and in paired one PAIR more 1
        private final int[] plain = new int[SETS + 1];
        private final int[] paired = new int[SETS + 1];
        private final int[] groupPlain = new int[SETS + 1];
        private final int[] groupPaired = new int[SETS + 1];

        /** Whether the TILES are SETS and one PAIR, without any left over. */
        boolean complete(int[] tiles) {
            for (int pair = 0; pair < KINDS; pair++) {
                if (pair < tiles.length && tiles[pair] >= 2) {
                    copy(tiles);
                    rest[pair] -= 2;
                    if (restIsSets()) {
                        return true;
                    }
                }
            }
            return false;
        }

        private void copy(int[] tiles) {
            for (int k = 0; k < KINDS && k < tiles.length; k++) {
                rest[k] = tiles[k];
            }
        }

        private boolean restIsSets() {
            for (int k = 0; k < KINDS; k++) {
                // three ROWS from k on are three THREES too: only what is left over by 3 must begin ROWS
                int rows = rest[k] % 3;
                if (rows > 0) {
                    if (!startsRow(k) || k + 2 >= KINDS || rest[k + 1] < rows || rest[k + 2] < rows) {
                        return false;
                    }
                    rest[k + 1] -= rows;
                    rest[k + 2] -= rows;
                }
            }
            return true;
        }

        int far(int[] tiles, int lie) {
            int parts = lie < 0 ? SETS : lie > SETS ? 0 : SETS - lie;
            copy(tiles);
            for (int n = 0; n <= SETS; n++) {
                plain[n] = 0;
                paired[n] = 0;
            }
            join(0, SUIT, parts);
            join(SUIT, HONOURS, parts);
            join(HONOURS, KINDS, parts);
            return 2 * parts - paired[parts];
        }

        /** Adds a suit or the honours: no part reaches from one of them into another. */
        private void join(int from, int end, int parts) {
            for (int n = 0; n <= parts && n <= SETS; n++) {
                groupPlain[n] = most(rest, from, end, n);
                groupPaired[n] = groupPlain[n];
            }
            for (int pair = from; pair < end && pair < KINDS; pair++) {
                if (rest[pair] >= 2) {
                    rest[pair] -= 2;
                    for (int n = 0; n <= parts && n <= SETS; n++) {
                        groupPaired[n] = Math.max(groupPaired[n], 1 + most(rest, from, end, n));
                    }
                    rest[pair] += 2;
                }
            }
            // downwards, as the smaller numbers of parts are still needed as they were
            for (int n = Math.min(parts, SETS); n >= 0; n--) {
                joinParts(n);
            }
        }

        private void joinParts(int parts) {
            int bestPlain = 0;
            int bestPaired = 0;
            for (int n = 0; n <= parts && parts <= SETS; n++) {
                bestPlain = Math.max(bestPlain, plain[n] + groupPlain[parts - n]);
                bestPaired = Math.max(bestPaired, paired[n] + groupPlain[parts - n]);
                bestPaired = Math.max(bestPaired, plain[n] + groupPaired[parts - n]);
            }
            plain[parts] = bestPlain;
            paired[parts] = bestPaired;
        }

        /** The most that so many parts, at most, make of the KINDS from one on; the calls go as deep as there are parts. */
        private static int most(int[] tiles, int from, int end, int parts) {
            int best = 0;
            if (parts <= 0 || parts > SETS || from < 0) {
                return 0;
            }
            for (int k = from; k < end && best < 2 * parts; k++) {
                for (int form = 0; form < FORMS; form++) {
                    if (fits(tiles, k, end, form)) {
                        changePart(tiles, k, form, -1);
                        int made = form <= ROW ? 2 : 1;
                        best = Math.max(best, made + most(tiles, k, end, parts - 1));
                        changePart(tiles, k, form, 1);
                    }
                }
            }
            return best;
        }

        /** Whether the TILES of a part are there, below the end of its suit or of the honours. */
        private static boolean fits(int[] tiles, int low, int end, int form) {
            if (low < 0 || low >= end || end > tiles.length || tiles[low] < AT_LOW[form]) {
                return false;
            }
            if (AT_NEXT[form] + AT_THIRD[form] == 0) {
                return true;
            }
            if (low >= HONOURS) {
                return false;
            }
            int next = low + 1 < end ? tiles[low + 1] : 0;
            int third = low + 2 < end ? tiles[low + 2] : 0;
            return next >= AT_NEXT[form] && third >= AT_THIRD[form];
        }

        private static void changePart(int[] tiles, int low, int form, int by) {
            if (low < 0 || low >= tiles.length) {
                return;
            }
            tiles[low] += by * AT_LOW[form];
            if (low + 1 < tiles.length) {
                tiles[low + 1] += by * AT_NEXT[form];
            }
            if (low + 2 < tiles.length) {
                tiles[low + 2] += by * AT_THIRD[form];
            }
        }
    }

    /** VALUE of COMPLETE hands; its row is made once and used again. */
    private static final class Valuing {
        private final int[] all = new int[KINDS];

        int value(Seat seat, boolean alone, int luckyKind, int wind) {
            gather(seat);
            int value = 1;
            value += seat.called ? 1 : 0;
            value += alone && seat.openSets() == 0 ? 1 : 0;
            value += luckyKind >= 0 && luckyKind < KINDS ? all[luckyKind] : 0;
            for (int dragon = DRAGONS; dragon < KINDS; dragon++) {
                value += setOf(dragon);
            }
            value += setOf(HONOURS + wind);
            value += withoutEndsAndHonours() ? 1 : 0;
            value += withoutRows(seat) ? 2 : 0;
            value += ofOneSuit();
            return Math.min(value, MOST_VALUE);
        }

        private void gather(Seat seat) {
            for (int k = 0; k < KINDS; k++) {
                all[k] = seat.count(k) + seat.inSets(k);
            }
        }

        /** Whether there is a THREE or FOUR of an honour: in a COMPLETE hand fewer of it are the PAIR. */
        private int setOf(int honour) {
            return honour >= HONOURS && honour < KINDS && all[honour] >= 3 ? 1 : 0;
        }

        private boolean withoutEndsAndHonours() {
            for (int k = 0; k < KINDS; k++) {
                boolean end = k % SUIT == 0 || k % SUIT == SUIT - 1;
                if (all[k] > 0 && (k >= HONOURS || end)) {
                    return false;
                }
            }
            return true;
        }

        /** Whether the hand can part into THREES and one PAIR, and no ROW lies. */
        private static boolean withoutRows(Seat seat) {
            int pairs = 0;
            for (int k = 0; k < KINDS; k++) {
                int over = seat.count(k) % 3;
                if (over == 1) {
                    return false;
                }
                pairs += over == 2 ? 1 : 0;
            }
            return pairs == 1 && !seat.rowLies();
        }

        private int ofOneSuit() {
            boolean dots = anyOf(0, SUIT);
            boolean bamboos = anyOf(SUIT, HONOURS);
            if (dots == bamboos) {
                return 0;
            }
            return anyOf(HONOURS, KINDS) ? 2 : 4;
        }

        private boolean anyOf(int from, int end) {
            for (int k = from; k >= 0 && k < end && k < KINDS; k++) {
                if (all[k] > 0) {
                    return true;
                }
            }
            return false;
        }
    }
}
