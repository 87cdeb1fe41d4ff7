/** A tournament in which each player is out with the second loss; ../shared/DOC.md tells what each call does. */
public final class TwoLives {
    public static final int NO_SUCH = -1, BAD_VALUE = -2, BAD_TEXT = -3, TOO_MANY = -4, NOT_POSSIBLE = -5, NONE = -6;
    public static final int BYE = 16;

    private static final int MOST_PLAYERS = 16;
    private static final int MOST_MATCHES = 31;
    private static final int MOST_TABLES = 8;
    private static final int MOST_ACTS = MOST_MATCHES + MOST_PLAYERS;
    private static final int MOST_SIGNS = 60;
    private static final int HIGHEST_RATING = 9999;

    private static final int UPPER = 0, LOWER = 1, FINALS = 2, PLACED = 3;
    private static final int UNDECIDED = 0, BY_BYE = 1, BY_WALKOVER = 2, BY_RESULT = 3;

    private final int[] ratings = new int[MOST_PLAYERS];
    private final int[] turn = new int[MOST_TABLES];
    private final Bracket live = new Bracket();
    private final Bracket trial = new Bracket();
    private final History history = new History();
    private final Pad pad = new Pad();
    private final Slot firstSlot = new Slot();
    private final Slot secondSlot = new Slot();

    public TwoLives() {
        begin(8, 0);
        rateAsAtFirst();
    }

    // ---- the tournament

    public int setUp(int players, int cross) {
        if (players < 2 || players > MOST_PLAYERS || cross < 0 || cross > 1) {
            return BAD_VALUE;
        }
        begin(players, cross);
        rateAsAtFirst();
        history.clear();
        return live.plan.matches;
    }

    public int rate(int player, int rating) {
        if (!live.plan.hasPlayer(player)) {
            return NO_SUCH;
        }
        if (rating < 0 || rating > HIGHEST_RATING) {
            return BAD_VALUE;
        }
        int previous = ratingOf(player);
        setRating(player, rating);
        return previous;
    }

    public int result(int match, int side) {
        if (!live.plan.hasMatch(match)) {
            return NO_SUCH;
        }
        if (side < 0 || side > 1) {
            return BAD_VALUE;
        }
        if (!live.canBePlayed(match)) {
            return NOT_POSSIBLE;
        }
        int winner = live.sideOf(match, side);
        int act = History.resultAct(match, side);
        history.add(act);
        perform(act);
        return winner;
    }

    public int withdraw(int player) {
        if (!live.plan.hasPlayer(player)) {
            return NO_SUCH;
        }
        if (live.isGone(player) || live.hasPlace(player)) {
            return NOT_POSSIBLE;
        }
        int act = History.withdrawalAct(player);
        history.add(act);
        return perform(act);
    }

    // ---- what there is

    public int match(int match, int what) {
        Plan plan = live.plan;
        if (!plan.hasMatch(match)) {
            return NO_SUCH;
        }
        switch (what) {
            case 0: return live.sideOf(match, 0);
            case 1: return live.sideOf(match, 1);
            case 2: return live.winner(match);
            case 3: return live.loser(match);
            case 4: return live.howDecided(match);
            case 5: return at(plan.part, match);
            case 6: return at(plan.round, match);
            case 7: return at(plan.index, match);
            case 8: return matchOfSeat(at(plan.winnerSeat, match));
            case 9: return matchOfSeat(at(plan.loserSeat, match));
            case 10: return sideOfSeat(at(plan.winnerSeat, match));
            case 11: return sideOfSeat(at(plan.loserSeat, match));
            default: return BAD_VALUE;
        }
    }

    public int player(int player, int what) {
        if (!live.plan.hasPlayer(player)) {
            return NO_SUCH;
        }
        switch (what) {
            case 0: return ratingOf(player);
            case 1: return live.wins(player);
            case 2: return live.losses(player);
            case 3: return live.isGone(player) ? 1 : 0;
            case 4: return whereNext(player);
            case 5: return live.nextMatch(player);
            case 6: return live.bestPlace(player);
            case 7: return live.lastPlace(player);
            case 8: return live.played(player);
            default: return BAD_VALUE;
        }
    }

    public int open(int index) {
        if (index < 0) {
            return NONE;
        }
        int before = 0;
        for (int m = 0; m < live.plan.matches; m++) {
            if (live.canBePlayed(m)) {
                if (before == index) {
                    return m;
                }
                before++;
            }
        }
        return NONE;
    }

    public int count(int what) {
        switch (what) {
            case 0: return live.plan.players;
            case 1: return live.plan.size;
            case 2: return live.plan.matches;
            case 3: return live.plan.cross;
            case 4: return live.decided(BY_RESULT);
            case 5: return live.decided(BY_WALKOVER);
            case 6: return live.decided(BY_BYE);
            case 7: return playableMatches();
            case 8: return live.champion();
            case 9: return placedPlayers();
            case 10: return resultsToCome(false);
            case 11: return resultsToCome(true);
            case 12: return pad.length;
            case 13: return history.length;
            default: return BAD_VALUE;
        }
    }

    // ---- forecasts; nothing changes

    public int forecast() {
        playTrial(NONE);
        return trial.champion();
    }

    public int upsets(int player) {
        if (!live.plan.hasPlayer(player)) {
            return NO_SUCH;
        }
        boolean beaten = live.hasPlace(player) && live.champion() != player;
        if (live.isGone(player) || beaten) {
            return NOT_POSSIBLE;
        }
        return playTrial(player);
    }

    public int sessions(int tables) {
        if (tables < 1 || tables > MOST_TABLES) {
            return BAD_VALUE;
        }
        trial.copyFrom(live);
        int turns = 0;
        while (turns < MOST_MATCHES && playTurn(tables)) {
            turns++;
        }
        return turns;
    }

    public int meet(int one, int other) {
        if (!live.plan.hasPlayer(one) || !live.plan.hasPlayer(other)) {
            return NO_SUCH;
        }
        if (one == other) {
            return BAD_VALUE;
        }
        if (live.isGone(one) || live.isGone(other) || live.hasPlace(one) || live.hasPlace(other)) {
            return NONE;
        }
        return live.plan.commonMatch(live.nextMatch(one), live.nextMatch(other));
    }

    // ---- texts

    public int put(long characters) {
        int many = Pad.charactersIn(characters);
        if (many == 0) {
            return BAD_VALUE;
        }
        if (pad.length + many > MOST_SIGNS) {
            return TOO_MANY;
        }
        pad.append(characters, many);
        return pad.length;
    }

    public int wipe() {
        int length = pad.length;
        pad.clear();
        return length;
    }

    public int fault() {
        return pad.firstFault();
    }

    public int carryOut() {
        if (pad.firstFault() != NONE) {
            return BAD_TEXT;
        }
        int done = 0;
        int answer = 0;
        for (int i = 0; i < pad.length && answer >= 0; i++) {
            if (pad.beginsAct(i)) {
                int number = pad.numberOfAct(i);
                answer = pad.isWithdrawal(i) ? withdraw(number) : result(number, pad.sideOfAct(i));
                done += answer >= 0 ? 1 : 0;
            }
        }
        pad.clear();
        return done;
    }

    // ---- undo, saving

    public int undo() {
        if (history.length == 0) {
            return NOT_POSSIBLE;
        }
        history.dropLast();
        replay();
        return history.length;
    }

    public int save(int slot) {
        if (slot < 0 || slot > 1) {
            return BAD_VALUE;
        }
        Slot target = slot == 0 ? firstSlot : secondSlot;
        target.used = true;
        target.players = live.plan.players;
        target.cross = live.plan.cross;
        copy(ratings, target.ratings);
        target.history.copyFrom(history);
        return live.decided(BY_RESULT);
    }

    public int restore(int slot) {
        if (slot < 0 || slot > 1) {
            return BAD_VALUE;
        }
        Slot source = slot == 0 ? firstSlot : secondSlot;
        if (!source.used) {
            return NOT_POSSIBLE;
        }
        begin(source.players, source.cross);
        copy(source.ratings, ratings);
        history.copyFrom(source.history);
        replay();
        return live.decided(BY_RESULT);
    }

    // ---- the course of the tournament

    private void begin(int players, int cross) {
        live.plan.lay(players, cross);
        trial.plan.lay(players, cross);
        live.clear();
    }

    /** Carries out an act, and returns how many matches are decided by it. */
    private int perform(int act) {
        int before = live.decidedMatches();
        enter(act);
        live.settle();
        return live.decidedMatches() - before;
    }

    private void enter(int act) {
        if (History.isResult(act)) {
            int seat = History.seatOf(act);
            live.enterResult(matchOfSeat(seat), sideOfSeat(seat));
        } else {
            live.letGo(History.playerOf(act));
        }
    }

    private void replay() {
        live.clear();
        for (int i = 0; i < history.length; i++) {
            enter(history.act(i));
        }
        live.settle();
    }

    private int whereNext(int player) {
        int next = live.nextMatch(player);
        return next == NONE ? PLACED : at(live.plan.part, next);
    }

    private int playableMatches() {
        int many = 0;
        for (int m = 0; m < live.plan.matches; m++) {
            if (live.canBePlayed(m)) {
                many++;
            }
        }
        return many;
    }

    private int placedPlayers() {
        int many = 0;
        for (int p = 0; p < live.plan.players; p++) {
            if (live.hasPlace(p)) {
                many++;
            }
        }
        return many;
    }

    // From now on, players who have withdrawn lose only by walkovers, and players who
    // have not withdrawn lose only to one another, by results. So the results to come
    // are as many as the lives that these will lose: all but what the champion keeps,
    // two lives (only for one who has not lost yet) or one.
    private int resultsToCome(boolean most) {
        int rivals = 0;
        int lives = 0;
        boolean unbeaten = false;
        for (int p = 0; p < live.plan.players; p++) {
            if (!live.isGone(p) && !live.hasPlace(p)) {
                int losses = live.losses(p);
                rivals++;
                lives += 2 - losses;
                unbeaten = unbeaten || losses == 0;
            }
        }
        if (rivals < 2) {
            return 0;
        }
        return lives - (unbeaten && !most ? 2 : 1);
    }

    // ---- trials

    // Winners and losers only go to matches with greater numbers, so one pass does it.
    private int playTrial(int hero) {
        trial.copyFrom(live);
        int upsets = 0;
        for (int m = 0; m < trial.plan.matches; m++) {
            trial.settleMatch(m);
            if (trial.canBePlayed(m)) {
                int favoured = favouredSide(m);
                int winning = hero == trial.sideOf(m, 1 - favoured) ? 1 - favoured : favoured;
                if (winning != favoured) {
                    upsets++;
                }
                trial.enterResult(m, winning);
                trial.settleMatch(m);
            }
        }
        return upsets;
    }

    // The matches are chosen before any of them is played, because each one may
    // open others, which have to wait for the next turn.
    private boolean playTurn(int tables) {
        int chosen = 0;
        for (int m = 0; m < trial.plan.matches && chosen < tables; m++) {
            if (trial.canBePlayed(m)) {
                store(turn, chosen, m);
                chosen++;
            }
        }
        for (int i = 0; i < chosen; i++) {
            int m = at(turn, i);
            trial.enterResult(m, favouredSide(m));
        }
        trial.settle();
        return chosen > 0;
    }

    private int favouredSide(int match) {
        int one = trial.sideOf(match, 0);
        int other = trial.sideOf(match, 1);
        int lead = ratingOf(one) - ratingOf(other);
        if (lead != 0) {
            return lead > 0 ? 0 : 1;
        }
        return one < other ? 0 : 1;
    }

    // ---- ratings

    private void rateAsAtFirst() {
        for (int p = 0; p < MOST_PLAYERS; p++) {
            setRating(p, 1500 - 10 * p);
        }
    }

    private int ratingOf(int player) {
        return at(ratings, player);
    }

    private void setRating(int player, int rating) {
        store(ratings, player, rating);
    }

    // ---- rows and seats

    private static int at(int[] row, int index) {
        return index >= 0 && index < row.length ? row[index] : NONE;
    }

    private static void store(int[] row, int index, int value) {
        if (index >= 0 && index < row.length) {
            row[index] = value;
        }
    }

    private static void copy(int[] from, int[] to) {
        for (int i = 0; i < from.length && i < to.length; i++) {
            to[i] = from[i];
        }
    }

    // A seat is a side of a match: 2 * match + side.
    private static int seat(int match, int side) {
        return 2 * match + side;
    }

    private static int matchOfSeat(int seat) {
        return seat < 0 ? NONE : seat >> 1;
    }

    private static int sideOfSeat(int seat) {
        return seat < 0 ? NONE : seat & 1;
    }

    /** What the number of players and CROSS settle before any match: where matches lead, byes, places. */
    private static final class Plan {
        int players;
        int cross;
        int size;
        int rounds;
        int matches;
        final int[] part = new int[MOST_MATCHES];
        final int[] round = new int[MOST_MATCHES];
        final int[] index = new int[MOST_MATCHES];
        final int[] winnerSeat = new int[MOST_MATCHES];
        final int[] loserSeat = new int[MOST_MATCHES];
        final int[] bestPlace = new int[MOST_MATCHES];
        final int[] lastPlace = new int[MOST_MATCHES];
        final int[] seeds = new int[MOST_PLAYERS];
        final int[] byes = new int[2 * MOST_MATCHES];

        void lay(int newPlayers, int newCross) {
            players = newPlayers;
            cross = newCross;
            size = 4;
            rounds = 2;
            while (size < players && size < MOST_PLAYERS) {
                size *= 2;
                rounds++;
            }
            matches = 2 * size - 1;
            layUpper();
            layLower();
            layMatch(firstFinal(), FINALS, 1, 0);
            layMatch(secondFinal(), FINALS, 2, 0);
            orderSeeds();
            findByes();
            sharePlaces();
        }

        boolean hasPlayer(int player) {
            return player >= 0 && player < players;
        }

        boolean hasMatch(int match) {
            return match >= 0 && match < matches;
        }

        int firstFinal() {
            return 2 * size - 3;
        }

        int secondFinal() {
            return 2 * size - 2;
        }

        // Ways of winners lead to greater numbers, so the smaller of both moves on.
        int commonMatch(int one, int other) {
            int here = one;
            int there = other;
            for (int step = 0; step < 2 * MOST_MATCHES && here != there; step++) {
                if (here < there) {
                    here = matchOfSeat(at(winnerSeat, here));
                } else {
                    there = matchOfSeat(at(winnerSeat, there));
                }
            }
            return here;
        }

        int firstRoundPlayer(int seat) {
            int seed = at(seeds, seat);
            return seed < players ? seed : BYE;
        }

        private int upperStart(int k) {
            return size - (size >> (k - 1));
        }

        private int upperMatches(int k) {
            return size >> k;
        }

        private int lowerRounds() {
            return 2 * rounds - 2;
        }

        private int lowerMatches(int k) {
            return size >> ((k + 1) / 2 + 1);
        }

        private int lowerStart(int k) {
            int start = size - 1;
            for (int earlier = 1; earlier < k; earlier++) {
                start += lowerMatches(earlier);
            }
            return start;
        }

        private void layMatch(int match, int itsPart, int itsRound, int itsIndex) {
            store(part, match, itsPart);
            store(round, match, itsRound);
            store(index, match, itsIndex);
            store(winnerSeat, match, NONE);
            store(loserSeat, match, NONE);
            store(bestPlace, match, NONE);
            store(lastPlace, match, NONE);
        }

        private void layUpper() {
            for (int k = 1; k <= rounds; k++) {
                int start = upperStart(k);
                for (int i = 0; i < upperMatches(k); i++) {
                    layMatch(start + i, UPPER, k, i);
                    store(winnerSeat, start + i, afterUpperWin(k, i));
                    store(loserSeat, start + i, afterUpperLoss(k, i));
                }
            }
        }

        private void layLower() {
            for (int k = 1; k <= lowerRounds(); k++) {
                int start = lowerStart(k);
                for (int i = 0; i < lowerMatches(k); i++) {
                    layMatch(start + i, LOWER, k, i);
                    store(winnerSeat, start + i, afterLowerWin(k, i));
                }
            }
        }

        private int afterUpperWin(int k, int i) {
            return k == rounds ? seat(firstFinal(), 0) : seat(upperStart(k + 1) + i / 2, i % 2);
        }

        private int afterUpperLoss(int k, int i) {
            if (k == 1) {
                return seat(lowerStart(1) + i / 2, i % 2);
            }
            boolean crossed = cross == 1 && k % 2 == 0;
            int target = crossed ? upperMatches(k) - 1 - i : i;
            return seat(lowerStart(2 * (k - 1)) + target, 1);
        }

        private int afterLowerWin(int k, int i) {
            if (k == lowerRounds()) {
                return seat(firstFinal(), 1);
            }
            if (k % 2 == 1) {
                return seat(lowerStart(k + 1) + i, 0);
            }
            return seat(lowerStart(k + 1) + i / 2, i % 2);
        }

        // From the end to the front, so that no seed is overwritten before it is read.
        private void orderSeeds() {
            store(seeds, 0, 0);
            for (int half = 1; half < size; half *= 2) {
                for (int i = half - 1; i >= 0; i--) {
                    int seed = at(seeds, i);
                    store(seeds, 2 * i, seed);
                    store(seeds, 2 * i + 1, 2 * half - 1 - seed);
                }
            }
        }

        private void findByes() {
            for (int s = 0; s < size; s++) {
                store(byes, s, firstRoundPlayer(s) == BYE ? 1 : 0);
            }
            for (int m = 0; m < firstFinal(); m++) {
                int many = byesIn(m);
                store(byes, at(winnerSeat, m), many == 2 ? 1 : 0);
                store(byes, at(loserSeat, m), many > 0 ? 1 : 0);
            }
        }

        private int byesIn(int match) {
            return at(byes, seat(match, 0)) + at(byes, seat(match, 1));
        }

        private void sharePlaces() {
            int later = 0;
            for (int k = lowerRounds(); k >= 1; k--) {
                int start = lowerStart(k);
                int end = start + lowerMatches(k);
                int many = 0;
                for (int m = start; m < end; m++) {
                    many += byesIn(m) == 0 ? 1 : 0;
                }
                for (int m = start; m < end; m++) {
                    store(bestPlace, m, later + 3);
                    store(lastPlace, m, later + 2 + many);
                }
                later += many;
            }
        }
    }

    /** The results and who has withdrawn; and, made from both: who sits where, what is decided and how. */
    private static final class Bracket {
        final Plan plan = new Plan();
        private final int[] results = new int[MOST_MATCHES];
        private final int[] gone = new int[MOST_PLAYERS];
        private final int[] seats = new int[2 * MOST_MATCHES];
        private final int[] how = new int[MOST_MATCHES];
        private final int[] wonBy = new int[MOST_MATCHES];

        void clear() {
            for (int m = 0; m < MOST_MATCHES; m++) {
                store(results, m, NONE);
            }
            for (int p = 0; p < MOST_PLAYERS; p++) {
                store(gone, p, 0);
            }
            settle();
        }

        // The plan stays: both brackets of a tournament are always laid alike.
        void copyFrom(Bracket other) {
            copy(other.results, results);
            copy(other.gone, gone);
            settle();
        }

        void enterResult(int match, int side) {
            store(results, match, side);
        }

        void letGo(int player) {
            store(gone, player, 1);
        }

        boolean isGone(int player) {
            return at(gone, player) == 1;
        }

        int sideOf(int match, int side) {
            return at(seats, seat(match, side));
        }

        int howDecided(int match) {
            return at(how, match);
        }

        int winner(int match) {
            return howDecided(match) == UNDECIDED ? NONE : sideOf(match, at(wonBy, match));
        }

        int loser(int match) {
            return howDecided(match) == UNDECIDED ? NONE : sideOf(match, 1 - at(wonBy, match));
        }

        boolean canBePlayed(int match) {
            return howDecided(match) == UNDECIDED
                    && plan.hasPlayer(sideOf(match, 0)) && plan.hasPlayer(sideOf(match, 1));
        }

        // All matches are decided anew, since a walkover goes to the other side when its
        // winner withdraws, too, and the players of all matches behind it change then.
        // Winners and losers only go to matches with greater numbers, so one pass does it.
        void settle() {
            for (int s = 0; s < 2 * MOST_MATCHES; s++) {
                store(seats, s, s < plan.size ? plan.firstRoundPlayer(s) : NONE);
            }
            for (int m = 0; m < MOST_MATCHES; m++) {
                store(how, m, UNDECIDED);
                store(wonBy, m, NONE);
            }
            for (int m = 0; m < plan.matches; m++) {
                settleMatch(m);
            }
        }

        /** Decides a match that is not decided, if it can be. */
        void settleMatch(int match) {
            int one = sideOf(match, 0);
            int other = sideOf(match, 1);
            if (howDecided(match) != UNDECIDED || one == NONE || other == NONE) {
                return;
            }
            int result = at(results, match);
            if (one == BYE || other == BYE) {
                decide(match, other == BYE ? 0 : 1, BY_BYE);
            } else if (result != NONE) {
                decide(match, result, BY_RESULT);
            } else if (isGone(one) || isGone(other)) {
                decide(match, isGone(other) ? 0 : 1, BY_WALKOVER);
            }
        }

        private void decide(int match, int side, int kind) {
            int winner = at(seats, seat(match, side));
            int loser = at(seats, seat(match, 1 - side));
            store(how, match, kind);
            store(wonBy, match, side);
            store(seats, at(plan.winnerSeat, match), winner);
            store(seats, at(plan.loserSeat, match), loser);
            if (match == plan.firstFinal() && side == 1) {
                store(seats, seat(plan.secondFinal(), 0), loser);
                store(seats, seat(plan.secondFinal(), 1), winner);
            }
        }

        int nextMatch(int player) {
            for (int m = 0; m < plan.matches; m++) {
                boolean inIt = sideOf(m, 0) == player || sideOf(m, 1) == player;
                if (inIt && howDecided(m) == UNDECIDED) {
                    return m;
                }
            }
            return NONE;
        }

        // Whoever has no match to come is out of the lower bracket or has been in the last final.
        boolean hasPlace(int player) {
            return nextMatch(player) == NONE;
        }

        int champion() {
            int second = winner(plan.secondFinal());
            if (second != NONE) {
                return second;
            }
            int first = plan.firstFinal();
            return at(wonBy, first) == 0 ? winner(first) : NONE;
        }

        int bestPlace(int player) {
            return place(player, plan.bestPlace);
        }

        int lastPlace(int player) {
            return place(player, plan.lastPlace);
        }

        private int place(int player, int[] lowerPlaces) {
            if (!hasPlace(player)) {
                return NONE;
            }
            for (int m = 0; m < plan.matches; m++) {
                if (at(plan.part, m) == LOWER && loser(m) == player) {
                    return at(lowerPlaces, m);
                }
            }
            return champion() == player ? 1 : 2;
        }

        int decidedMatches() {
            return plan.matches - decided(UNDECIDED);
        }

        int decided(int kind) {
            int many = 0;
            for (int m = 0; m < plan.matches; m++) {
                many += howDecided(m) == kind ? 1 : 0;
            }
            return many;
        }

        int wins(int player) {
            int many = 0;
            for (int m = 0; m < plan.matches; m++) {
                many += howDecided(m) != BY_BYE && winner(m) == player ? 1 : 0;
            }
            return many;
        }

        int losses(int player) {
            int many = 0;
            for (int m = 0; m < plan.matches; m++) {
                many += howDecided(m) != BY_BYE && loser(m) == player ? 1 : 0;
            }
            return many;
        }

        int played(int player) {
            int many = 0;
            for (int m = 0; m < plan.matches; m++) {
                boolean inIt = sideOf(m, 0) == player || sideOf(m, 1) == player;
                many += inIt && howDecided(m) == BY_RESULT ? 1 : 0;
            }
            return many;
        }
    }

    /** The acts since setUp, in their order; each is a number. */
    private static final class History {
        private static final int FIRST_WITHDRAWAL = 2 * MOST_MATCHES;

        private final int[] acts = new int[MOST_ACTS];
        int length;

        static int resultAct(int match, int side) {
            return seat(match, side);
        }

        static int withdrawalAct(int player) {
            return FIRST_WITHDRAWAL + player;
        }

        static boolean isResult(int act) {
            return act < FIRST_WITHDRAWAL;
        }

        static int seatOf(int act) {
            return act;
        }

        static int playerOf(int act) {
            return act - FIRST_WITHDRAWAL;
        }

        // There is room for every act: a match has one result at most, and a player withdraws once.
        void add(int act) {
            if (length < MOST_ACTS) {
                store(acts, length, act);
                length++;
            }
        }

        void dropLast() {
            if (length > 0) {
                length--;
            }
        }

        void clear() {
            length = 0;
        }

        int act(int number) {
            return at(acts, number);
        }

        void copyFrom(History other) {
            copy(other.acts, acts);
            length = other.length;
        }
    }

    /** What save() keeps; the acts tell the rest. */
    private static final class Slot {
        boolean used;
        int players;
        int cross;
        final int[] ratings = new int[MOST_PLAYERS];
        final History history = new History();
    }

    /** The text of acts, and how it is read. */
    private static final class Pad {
        private static final int AT_ACT = 0, IN_MATCH = 1, AT_COMMA = 2, AT_PLAYER = 3, IN_PLAYER = 4;
        private static final int GREATEST_MATCH = 30, GREATEST_PLAYER = 15;
        private static final char NO_SIGN = 0;

        private final char[] signs = new char[MOST_SIGNS];
        int length;
        private int reading;
        private int number;

        /** The number of characters that a long holds; 0 if it does not hold them as it has to. */
        static int charactersIn(long characters) {
            long rest = characters;
            int many = 0;
            while (many < 8 && (rest & 255) != 0) {
                long code = rest & 255;
                if (code < 33 || code > 126) {
                    return 0;
                }
                rest >>>= 8;
                many++;
            }
            return rest == 0 ? many : 0;
        }

        void append(long characters, int many) {
            for (int i = many - 1; i >= 0; i--) {
                if (length >= 0 && length < signs.length) {
                    signs[length] = (char) ((characters >>> (8 * i)) & 255);
                    length++;
                }
            }
        }

        void clear() {
            length = 0;
        }

        char signAt(int index) {
            return index >= 0 && index < length && index < signs.length ? signs[index] : NO_SIGN;
        }

        int firstFault() {
            reading = AT_ACT;
            for (int i = 0; i < length; i++) {
                if (!takes(signAt(i))) {
                    return i;
                }
            }
            return reading == AT_COMMA || reading == IN_PLAYER ? NONE : length;
        }

        private boolean takes(char sign) {
            switch (reading) {
                case AT_ACT:
                    return sign == 'w' ? goesOnTo(AT_PLAYER) : takesFirstDigit(sign, IN_MATCH);
                case IN_MATCH:
                    return sign == 'a' || sign == 'b' ? goesOnTo(AT_COMMA) : takesDigit(sign, GREATEST_MATCH);
                case AT_PLAYER:
                    return takesFirstDigit(sign, IN_PLAYER);
                case IN_PLAYER:
                    return sign == ',' ? goesOnTo(AT_ACT) : takesDigit(sign, GREATEST_PLAYER);
                default:
                    return sign == ',' && goesOnTo(AT_ACT);
            }
        }

        private boolean goesOnTo(int next) {
            reading = next;
            return true;
        }

        private boolean takesFirstDigit(char sign, int next) {
            if (!isDigit(sign)) {
                return false;
            }
            number = sign - '0';
            return goesOnTo(next);
        }

        private boolean takesDigit(char sign, int greatest) {
            if (!isDigit(sign) || number == 0 || 10 * number + (sign - '0') > greatest) {
                return false;
            }
            number = 10 * number + (sign - '0');
            return true;
        }

        private static boolean isDigit(char sign) {
            return sign >= '0' && sign <= '9';
        }

        // The acts are asked for only while the pad has no fault.

        boolean beginsAct(int index) {
            return index == 0 || signAt(index - 1) == ',';
        }

        boolean isWithdrawal(int start) {
            return signAt(start) == 'w';
        }

        int numberOfAct(int start) {
            int value = 0;
            for (int i = isWithdrawal(start) ? start + 1 : start; i < length && isDigit(signAt(i)); i++) {
                value = 10 * value + (signAt(i) - '0');
            }
            return value;
        }

        int sideOfAct(int start) {
            int end = start;
            while (end < length && isDigit(signAt(end))) {
                end++;
            }
            return signAt(end) == 'a' ? 0 : 1;
        }
    }
}
