import java.util.function.Supplier;

/** Promises 1 to 5, at their edges: a method for each sentence that names one. */
final class TournamentEdgesTest {
    private static final int MIN = Integer.MIN_VALUE, MAX = Integer.MAX_VALUE;

    private TournamentEdgesTest() {
    }

    public static void main(String[] args) {
        newObjectHasEightPlayersAndDoesNotCross();
        newObjectIsWithoutResults();
        newObjectsShareNothing();
        setUpTakesTwoToSixteenPlayers();
        setUpRefusesOtherPlayers();
        setUpRefusesOtherCrosses();
        setUpIsWithoutResults();
        setUpRatesAsAtFirst();
        setUpEmptiesTheHistory();
        setUpKeepsPadAndSlots();
        rateTakesZeroTo9999();
        rateRefusesOtherRatings();
        rateRefusesOtherPlayers();
        rateRefusesThePlayerFirst();
        rateDoesNotAskForThePlayersState();
        resultTakesTheFirstAndTheLastMatch();
        resultRefusesOtherMatches();
        resultRefusesOtherSides();
        resultRefusesInOrder();
        resultRefusesMatchesWithByes();
        resultRefusesUnknownSides();
        resultRefusesDecidedMatches();
        resultRefusesTheSecondFinalThatIsNotPlayed();
        resultReturnsThePlayerWhoHasWon();
        withdrawTakesTheFirstAndTheLastPlayer();
        withdrawRefusesOtherPlayers();
        withdrawRefusesWhoHasWithdrawn();
        withdrawRefusesWhoHasAPlace();
        withdrawCountsWalkovers();
        withdrawCountsByesThatFollow();
        withdrawCountsBothFinals();
        withdrawCountsOnlyWhatThisDecided();
        Check.end();
    }

    private static void due(String call, int want, int got) {
        Check.due(call, want, got);
    }

    private static Supplier<TwoLives> after(int players, String acts) {
        return () -> Check.entered(players, 0, acts);
    }

    // ---- promise 1

    private static void newObjectHasEightPlayersAndDoesNotCross() {
        TwoLives x = new TwoLives();
        due("players of a new object", 8, x.count(0));
        due("its size", 8, x.count(1));
        due("its matches", 15, x.count(2));
        due("its CROSS", 0, x.count(3));
        due("loser of its match 4", 9, x.match(4, 9));
        due("its last player's rating", 1430, x.player(7, 0));
        due("the player behind", -1, x.player(8, 0));
    }

    private static void newObjectIsWithoutResults() {
        TwoLives x = new TwoLives();
        int[] nothing = {4, 5, 6, 9, 12, 13};
        for (int what : nothing) {
            due("count(" + what + ") of a new object", 0, x.count(what));
        }
        due("its champion", -6, x.count(8));
        due("its fault, of an empty pad", 0, x.fault());
        due("its carryOut()", -3, x.carryOut());
        due("its undo()", -5, x.undo());
        due("its slot 0", -5, x.restore(0));
        due("its slot 1", -5, x.restore(1));
    }

    private static void newObjectsShareNothing() {
        TwoLives full = Untouched.full();
        newObjectIsWithoutResults();
        newObjectHasEightPlayersAndDoesNotCross();
        due("players of the first object", 11, full.count(0));
        due("its pad", 6, full.wipe());
        due("its acts", 6, full.count(13));
    }

    // ---- promise 2

    private static void setUpTakesTwoToSixteenPlayers() {
        TwoLives x = new TwoLives();
        int[] matches = {7, 7, 7, 15, 15, 15, 15, 31, 31, 31, 31, 31, 31, 31, 31};
        for (int n = 2; n <= 16; n++) {
            for (int cross = 0; cross <= 1; cross++) {
                due("setUp(" + n + ", " + cross + ")", matches[n - 2], x.setUp(n, cross));
                due("its players", n, x.count(0));
                due("its CROSS", cross, x.count(3));
                due("its last match", 2, x.match(matches[n - 2] - 1, 6));
                due("the match behind", -1, x.match(matches[n - 2], 6));
                due("its last player", 1500 - 10 * (n - 1), x.player(n - 1, 0));
                due("the player behind", -1, x.player(n, 0));
            }
        }
    }

    private static void setUpRefusesOtherPlayers() {
        for (int n : new int[] {MIN, -8, -1, 0, 1, 17, 18, 32, MAX}) {
            Untouched.by("setUp(" + n + ", 0)", -2, x -> x.setUp(n, 0));
            Untouched.by("setUp(" + n + ", 1)", -2, x -> x.setUp(n, 1));
        }
    }

    private static void setUpRefusesOtherCrosses() {
        for (int cross : new int[] {MIN, -1, 2, 3, MAX}) {
            Untouched.by("setUp(2, " + cross + ")", -2, x -> x.setUp(2, cross));
            Untouched.by("setUp(16, " + cross + ")", -2, x -> x.setUp(16, cross));
            Untouched.by("setUp(17, " + cross + ")", -2, x -> x.setUp(17, cross));
        }
    }

    private static void setUpIsWithoutResults() {
        for (int n = 2; n <= 16; n++) {
            TwoLives x = Untouched.full();
            x.wipe();
            due("setUp(" + n + ", 0) of a full object", 1, x.setUp(n, 0) > 0 ? 1 : 0);
            TwoLives fresh = new TwoLives();
            fresh.setUp(n, 0);
            due("is as of a new one", 1, Check.told(fresh).equals(Check.told(x)) ? 1 : 0);
        }
    }

    private static void setUpRatesAsAtFirst() {
        TwoLives x = new TwoLives();
        x.setUp(16, 0);
        for (int p = 0; p < 16; p++) {
            x.rate(p, 9999 - p);
        }
        x.setUp(2, 0);
        due("rating of 0", 1500, x.player(0, 0));
        due("rating of 1", 1490, x.player(1, 0));
        x.setUp(16, 0);
        for (int p = 0; p < 16; p++) {
            due("rating of " + p, 1500 - 10 * p, x.player(p, 0));
        }
    }

    private static void setUpEmptiesTheHistory() {
        TwoLives x = Untouched.full();
        due("acts before", 6, x.count(13));
        due("setUp with the same players", 31, x.setUp(11, 1));
        due("acts behind setUp()", 0, x.count(13));
        due("undo() behind setUp()", -5, x.undo());
    }

    private static void setUpKeepsPadAndSlots() {
        TwoLives x = Untouched.full();
        x.setUp(16, 0);
        due("the pad", 6, x.count(12));
        due("slot 0", 2, x.restore(0));
        x.setUp(2, 1);
        due("slot 1", 3, x.restore(1));
        x.setUp(8, 0);
        x.put(Check.packed(",w3"));
        due("the pad is as it was: 10a fails", 0, x.carryOut());
        due("and empty then", 0, x.count(12));
    }

    // ---- promise 3

    private static void rateTakesZeroTo9999() {
        for (int n : new int[] {2, 5, 8, 16}) {
            for (int p : new int[] {0, n - 1}) {
                TwoLives x = Check.entered(n, 0, "");
                due("rate(" + p + ", 0), the least", 1500 - 10 * p, x.rate(p, 0));
                due("rate(" + p + ", 9999), the greatest", 0, x.rate(p, 9999));
                due("rate(" + p + ", 9999) again", 9999, x.rate(p, 9999));
                due("rating of " + p, 9999, x.player(p, 0));
                due("rating of the other", 1500 - 10 * (n - 1 - p), x.player(n - 1 - p, 0));
            }
        }
    }

    private static void rateRefusesOtherRatings() {
        for (int rating : new int[] {MIN, -10000, -1, 10000, 10001, MAX}) {
            Untouched.by("rate(0, " + rating + ")", -2, x -> x.rate(0, rating));
            Untouched.by("rate(10, " + rating + ")", -2, x -> x.rate(10, rating));
        }
    }

    private static void rateRefusesOtherPlayers() {
        for (int p : new int[] {MIN, -1, 11, 15, 16, MAX}) {
            Untouched.by("rate(" + p + ", 1)", -1, x -> x.rate(p, 1));
        }
        Untouched.by("rate(2, 1) of two", -1, after(2, "2a"), x -> x.rate(2, 1));
        Untouched.by("rate(16, 1) of sixteen", -1, after(16, "2a"), x -> x.rate(16, 1));
    }

    private static void rateRefusesThePlayerFirst() {
        for (int p : new int[] {-1, 11}) {
            for (int rating : new int[] {MIN, -1, 10000, MAX}) {
                Untouched.by("rate(" + p + ", " + rating + ")", -1, x -> x.rate(p, rating));
            }
        }
    }

    private static void rateDoesNotAskForThePlayersState() {
        TwoLives x = Check.entered(2, 0, "w0");
        due("rate of the second, who has withdrawn", 1500, x.rate(0, 5));
        due("rate of the champion", 1490, x.rate(1, 6));
        due("rating of 0", 5, x.player(0, 0));
        due("a rating is no act", 1, x.count(13));
    }

    // ---- promise 4

    private static void resultTakesTheFirstAndTheLastMatch() {
        String[] untilTheEnd = {"0a,1a,2a,3a,4a,5b", "0a,1a,2a,3a,4a,5a,6a,7a,8a,9a,10a,11a,12a,13b"};
        int[] players = {4, 8};
        for (int i = 0; i < players.length; i++) {
            for (int side = 0; side <= 1; side++) {
                TwoLives x = Check.entered(players[i], 0, "");
                due("result(0, " + side + ")", side == 0 ? 0 : players[i] - 1, x.result(0, side));
                x = Check.entered(players[i], 0, untilTheEnd[i]);
                int last = 2 * players[i] - 2;
                due("result of the last match", x.match(last, side), x.result(last, side));
                due("the champion", x.match(last, side), x.count(8));
                due("the match behind", -1, x.result(last + 1, side));
            }
        }
        TwoLives x = Check.entered(16, 0, "");
        for (int m = 0; m < 29; m++) {
            x.result(m, m % 2);
        }
        due("result(29, 1) of sixteen", x.match(29, 1), x.result(29, 1));
        due("result(30, 1) of sixteen", x.match(30, 1), x.result(30, 1));
        due("result(31, 1) of sixteen", -1, x.result(31, 1));
    }

    private static void resultRefusesOtherMatches() {
        for (int m : new int[] {MIN, -31, -1, 31, 32, MAX}) {
            Untouched.by("result(" + m + ", 0) of eleven", -1, x -> x.result(m, 0));
        }
        Untouched.by("result(7, 1) of four", -1, after(4, "0a,1b"), x -> x.result(7, 1));
        Untouched.by("result(15, 1) of eight", -1, after(8, "0a,1b"), x -> x.result(15, 1));
    }

    private static void resultRefusesOtherSides() {
        for (int side : new int[] {MIN, -6, -1, 2, 3, MAX}) {
            Untouched.by("result(5, " + side + "), decided", -2, x -> x.result(5, side));
            Untouched.by("result(10, " + side + "), which can be played", -2, x -> x.result(10, side));
        }
    }

    private static void resultRefusesInOrder() {
        Untouched.by("no such match, nor side", -1, x -> x.result(31, 2));
        Untouched.by("no such match, nor side, below", -1, x -> x.result(-1, -1));
        Untouched.by("no such side of a match with a bye", -2, x -> x.result(0, 2));
        Untouched.by("no such side of a match that is not known", -2, x -> x.result(30, -1));
        Untouched.by("no such side of a match that is decided", -2, x -> x.result(1, 2));
    }

    private static void resultRefusesMatchesWithByes() {
        for (int side = 0; side <= 1; side++) {
            int s = side;
            Untouched.by("a player against a bye", -5, after(5, ""), x -> x.result(0, s));
            Untouched.by("a bye against a bye", -5, after(5, ""), x -> x.result(8, s));
            Untouched.by("a bye against nobody known", -5, after(5, ""), x -> x.result(7, s));
            Untouched.by("nobody known against a bye", -5, after(6, ""), x -> x.result(8, s));
        }
    }

    private static void resultRefusesUnknownSides() {
        for (int side = 0; side <= 1; side++) {
            int s = side;
            Untouched.by("side 1 is not known", -5, after(8, "0a"), x -> x.result(4, s));
            Untouched.by("side 0 is not known", -5, after(8, "1a"), x -> x.result(4, s));
            Untouched.by("no side is known", -5, after(8, ""), x -> x.result(4, s));
            Untouched.by("the final, half known", -5, after(4, "0a,1a,2a"), x -> x.result(5, s));
            Untouched.by("who has withdrawn against nobody known", -5, after(8, "0a,w0"), x -> x.result(4, s));
        }
    }

    private static void resultRefusesDecidedMatches() {
        for (int side = 0; side <= 1; side++) {
            int s = side;
            Untouched.by("decided by a result for side 0", -5, after(8, "0a"), x -> x.result(0, s));
            Untouched.by("decided by a result for side 1", -5, after(8, "0b"), x -> x.result(0, s));
            Untouched.by("decided by a walkover", -5, after(8, "w0"), x -> x.result(0, s));
            Untouched.by("decided by a walkover of both", -5, after(8, "w0,w7"), x -> x.result(0, s));
            Untouched.by("the final when it is over", -5, after(4, "0a,1a,2a,3a,4a,5a"), x -> x.result(5, s));
            Untouched.by("the second final, likewise", -5, after(4, "0a,1a,2a,3a,4a,5b,6a"), x -> x.result(6, s));
        }
    }

    private static void resultRefusesTheSecondFinalThatIsNotPlayed() {
        for (int side = 0; side <= 1; side++) {
            int s = side;
            Untouched.by("before the final", -5, after(4, "0a,1a,2a,3a,4a"), x -> x.result(6, s));
            Untouched.by("side 0 has won the final", -5, after(4, "0a,1a,2a,3a,4a,5a"), x -> x.result(6, s));
            Untouched.by("side 0 has won it by a walkover", -5, after(4, "0a,1a,2a,3a,4a,w3"), x -> x.result(6, s));
            due("side 1 has won the final", s, after(4, "0a,1a,2a,3a,4b,5b").get().result(6, s));
        }
    }

    private static void resultReturnsThePlayerWhoHasWon() {
        int[][] first = {{0, 7}, {3, 4}, {1, 6}, {2, 5}};
        for (int m = 0; m < 4; m++) {
            for (int side = 0; side <= 1; side++) {
                TwoLives x = new TwoLives();
                due("result(" + m + ", " + side + ")", first[m][side], x.result(m, side));
                due("its winner", first[m][side], x.match(m, 2));
                due("its loser", first[m][1 - side], x.match(m, 3));
                due("results", 1, x.count(4));
                due("acts", 1, x.count(13));
            }
        }
    }

    // ---- promise 5

    private static void withdrawTakesTheFirstAndTheLastPlayer() {
        for (int n = 3; n <= 16; n++) {
            for (int p : new int[] {0, n - 1}) {
                TwoLives x = Check.entered(n, 0, "");
                due("withdraw(" + p + ") of " + n, 1, x.withdraw(p) >= 0 ? 1 : 0);
                due("withdrawn", 1, x.player(p, 3));
                due("the other has not", 0, x.player(n - 1 - p, 3));
                due("acts", 1, x.count(13));
            }
        }
    }

    private static void withdrawRefusesOtherPlayers() {
        for (int p : new int[] {MIN, -1, 11, 15, 16, MAX}) {
            Untouched.by("withdraw(" + p + ") of eleven", -1, x -> x.withdraw(p));
        }
        Untouched.by("withdraw(2) of two", -1, after(2, ""), x -> x.withdraw(2));
        Untouched.by("withdraw(16) of sixteen", -1, after(16, ""), x -> x.withdraw(16));
    }

    private static void withdrawRefusesWhoHasWithdrawn() {
        Untouched.by("withdraw(6) again", -5, x -> x.withdraw(6));
        Untouched.by("who waits for a match", -5, after(8, "0a,w0"), x -> x.withdraw(0));
        Untouched.by("who has a place, too", -5, after(8, "0b,1a,w0"), x -> x.withdraw(0));
    }

    private static void withdrawRefusesWhoHasAPlace() {
        Untouched.by("out in the first round of the lower bracket", -5, after(8, "0a,1a,7a"), x -> x.withdraw(4));
        Untouched.by("out in its last round", -5, after(4, "0a,1a,2a,3a,4b"), x -> x.withdraw(3));
        Untouched.by("the champion of one final", -5, after(4, "0a,1a,2a,3a,4a,5a"), x -> x.withdraw(0));
        Untouched.by("the second of one final", -5, after(4, "0a,1a,2a,3a,4b,5a"), x -> x.withdraw(1));
        Untouched.by("the champion of two finals", -5, after(4, "0a,1a,2a,3a,4b,5b,6b"), x -> x.withdraw(1));
        Untouched.by("the second of two finals", -5, after(4, "0a,1a,2a,3a,4b,5b,6b"), x -> x.withdraw(0));
        Untouched.by("the champion by a walkover", -5, after(2, "w0"), x -> x.withdraw(1));
        due("not placed before the final", 1, after(4, "0a,1a,2a,3a,4b").get().withdraw(1));
        due("nor between the finals", 1, after(4, "0a,1a,2a,3a,4b,5b").get().withdraw(1));
    }

    private static void withdrawCountsWalkovers() {
        due("who waits in the upper bracket", 0, after(8, "0a").get().withdraw(0));
        due("who waits in the lower bracket", 0, after(8, "0a").get().withdraw(7));
        due("who has an opponent", 1, after(8, "").get().withdraw(0));
        due("who has an opponent in the lower bracket", 1, after(8, "0a,1a").get().withdraw(7));
        due("who meets one who waits, withdrawn, and goes down to one who waits", 4,
                after(8, "w0,w7").get().withdraw(3));
    }

    private static void withdrawCountsByesThatFollow() {
        due("the loser meets a bye", 2, after(5, "").get().withdraw(3));
        due("the loser's opponent is not known", 1, after(8, "").get().withdraw(3));
        due("two: walkover, bye, walkover", 3, after(2, "").get().withdraw(0));
        due("two, the other one: walkover, bye, walkover", 3, after(2, "").get().withdraw(1));
        TwoLives x = Check.entered(5, 0, "");
        int before = x.count(5) + x.count(6);
        int decided = x.withdraw(4);
        due("walkovers and byes", decided, x.count(5) + x.count(6) - before);
        due("who has withdrawn goes on by a bye", 4, x.match(7, 2));
        due("which is no walkover", 1, x.match(7, 4));
        due("and waits there", 9, x.player(4, 5));
    }

    private static void withdrawCountsBothFinals() {
        String untilTheFinal = "0a,1a,2a,3a,4b";
        due("side 0 of the final", 2, after(4, untilTheFinal).get().withdraw(0));
        due("side 1 of the final", 1, after(4, untilTheFinal).get().withdraw(1));
        due("side 0 of the second final", 1, after(4, untilTheFinal + ",5b").get().withdraw(0));
        due("side 1 of the second final", 1, after(4, untilTheFinal + ",5b").get().withdraw(1));
    }

    private static void withdrawCountsOnlyWhatThisDecided() {
        due("the winner of a walkover, which was decided before", 0, after(8, "w3").get().withdraw(4));
        due("results are not counted", 1, after(8, "0a,1a,2a,3a").get().withdraw(0));
        TwoLives x = Check.entered(16, 0, "");
        int decided = x.count(6);
        for (int p = 0; p < 15; p++) {
            int now = x.withdraw(p);
            due("withdraw(" + p + ") of sixteen", 1, now >= 0 ? 1 : 0);
            decided += now;
        }
        due("all that was decided", decided, x.count(5) + x.count(6));
        due("the one who stays", 15, x.count(8));
        due("and has a place", -5, x.withdraw(15));
    }
}
