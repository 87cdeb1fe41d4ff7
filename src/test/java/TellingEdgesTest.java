/** Promises 6 to 9, at their edges: a method for each sentence that names one. */
final class TellingEdgesTest {
    private static final int MIN = Integer.MIN_VALUE, MAX = Integer.MAX_VALUE;

    private TellingEdgesTest() {
    }

    public static void main(String[] args) {
        matchRefusesOtherMatches();
        matchRefusesOtherNumbers();
        matchRefusesTheMatchFirst();
        matchTellsSides();
        matchTellsWinnerAndLoser();
        matchTellsHowItIsDecided();
        matchTellsBracketRoundAndIndex();
        matchTellsWhereTheWinnerGoes();
        matchTellsWhereTheLoserGoes();
        playerRefusesOtherPlayers();
        playerRefusesOtherNumbers();
        playerRefusesThePlayerFirst();
        playerTellsWinsAndLosses();
        playerTellsWhetherItHasWithdrawn();
        playerTellsItsNextMatch();
        playerTellsTheNextMatchOfWhoHasWithdrawn();
        playerTellsThePlacesItShares();
        playerTellsNoPlaceBeforeItHasOne();
        playerTellsMatchesByResults();
        openRefusesIndexesBelowZero();
        openTellsTheFirstAndTheLast();
        openTellsNoneWhenThereIsNone();
        countRefusesOtherNumbers();
        countTellsTheTournament();
        countTellsDecidedMatches();
        countTellsMatchesThatCanBePlayed();
        countTellsTheChampion();
        countTellsPlayersWhoHaveAPlace();
        countTellsTheResultsOfANewTournament();
        countTellsTheResultsBeforeTheEnd();
        countTellsNoResultsForWalkovers();
        countTellsTheLengthOfThePad();
        countTellsTheActs();
        Check.end();
    }

    private static void due(String call, int want, int got) {
        Check.due(call, want, got);
    }

    private static TwoLives after(int players, String acts) {
        return Check.entered(players, 0, acts);
    }

    private static void row(TwoLives x, int what, int... want) {
        for (int m = 0; m < want.length; m++) {
            due(x.count(0) + " players: match(" + m + ", " + what + ")", want[m], x.match(m, what));
        }
    }

    // ---- promise 6

    private static void matchRefusesOtherMatches() {
        int[] players = {2, 4, 5, 8, 9, 16};
        int[] matches = {7, 7, 15, 15, 31, 31};
        for (int i = 0; i < players.length; i++) {
            TwoLives x = after(players[i], "");
            for (int what = 0; what <= 11; what++) {
                due("the last match", 1, x.match(matches[i] - 1, what) != -1 ? 1 : 0);
                due("match(" + matches[i] + ", " + what + ")", -1, x.match(matches[i], what));
                due("match(-1, " + what + ")", -1, x.match(-1, what));
            }
            due("match(MIN, 0)", -1, x.match(MIN, 0));
            due("match(MAX, 0)", -1, x.match(MAX, 0));
        }
        Untouched.by("match(31, 0)", -1, x -> x.match(31, 0));
    }

    private static void matchRefusesOtherNumbers() {
        TwoLives x = after(8, "0a");
        for (int m : new int[] {0, 1, 4, 7, 13, 14}) {
            for (int what : new int[] {MIN, -6, -1, 12, 13, MAX}) {
                due("match(" + m + ", " + what + ")", -2, x.match(m, what));
            }
            due("match(" + m + ", 11) is taken", 1, x.match(m, 11) != -2 ? 1 : 0);
        }
        Untouched.by("match(0, 12)", -2, y -> y.match(0, 12));
        Untouched.by("match(0, -1)", -2, y -> y.match(0, -1));
    }

    private static void matchRefusesTheMatchFirst() {
        TwoLives x = after(8, "");
        due("match(15, 12)", -1, x.match(15, 12));
        due("match(-1, -1)", -1, x.match(-1, -1));
        due("match(MAX, MIN)", -1, x.match(MAX, MIN));
    }

    private static void matchTellsSides() {
        row(after(4, ""), 0, 0, 1, -6, -6, -6, -6, -6);
        row(after(4, ""), 1, 3, 2, -6, -6, -6, -6, -6);
        row(after(3, ""), 0, 0, 1, 0, 16, -6, -6, -6);
        row(after(3, ""), 1, 16, 2, -6, -6, -6, -6, -6);
        row(after(2, ""), 0, 0, 1, 0, 16, 16, -6, -6);
        row(after(2, ""), 1, 16, 16, 1, 16, -6, -6, -6);
        row(after(4, "0a,1b,2a,3b,4a,5b"), 0, 0, 1, 0, 3, 1, 0, 0);
        row(after(4, "0a,1b,2a,3b,4a,5b"), 1, 3, 2, 2, 1, 2, 1, 1);
        row(after(4, "0a,1b,2a,3b,4a,5a"), 0, 0, 1, 0, 3, 1, 0, -6);
        row(after(4, "0a,1b,2a,3b,4a,5a"), 1, 3, 2, 2, 1, 2, 1, -6);
        Untouched.by("match(8, 0)", 0, x -> x.match(8, 0));
    }

    private static void matchTellsWinnerAndLoser() {
        row(after(4, ""), 2, -6, -6, -6, -6, -6, -6, -6);
        row(after(4, ""), 3, -6, -6, -6, -6, -6, -6, -6);
        row(after(2, ""), 2, 0, 1, -6, 16, -6, -6, -6);
        row(after(2, ""), 3, 16, 16, -6, 16, -6, -6, -6);
        row(after(4, "0a,1b,2a,3b,4a,5b,6a"), 2, 0, 2, 0, 1, 1, 1, 0);
        row(after(4, "0a,1b,2a,3b,4a,5b,6a"), 3, 3, 1, 2, 3, 2, 0, 1);
        Untouched.by("match(9, 2)", 3, x -> x.match(9, 2));
    }

    private static void matchTellsHowItIsDecided() {
        row(after(4, ""), 4, 0, 0, 0, 0, 0, 0, 0);
        row(after(3, ""), 4, 1, 0, 0, 0, 0, 0, 0);
        row(after(3, "1a"), 4, 1, 3, 0, 1, 0, 0, 0);
        row(after(3, "w1"), 4, 1, 2, 0, 1, 0, 0, 0);
        row(after(4, "0a,w3,1a,2a,4a,5b"), 4, 3, 3, 3, 2, 3, 3, 0);
        row(after(4, "0a,w3,1a,2a,4a,5b,w0"), 4, 3, 3, 3, 2, 3, 3, 2);
    }

    private static void matchTellsBracketRoundAndIndex() {
        TwoLives four = after(4, "");
        row(four, 5, 0, 0, 0, 1, 1, 2, 2);
        row(four, 6, 1, 1, 2, 1, 2, 1, 2);
        row(four, 7, 0, 1, 0, 0, 0, 0, 0);
        TwoLives eight = after(8, "");
        row(eight, 5, 0, 0, 0, 0, 0, 0, 0, 1, 1, 1, 1, 1, 1, 2, 2);
        row(eight, 6, 1, 1, 1, 1, 2, 2, 3, 1, 1, 2, 2, 3, 4, 1, 2);
        row(eight, 7, 0, 1, 2, 3, 0, 1, 0, 0, 1, 0, 1, 0, 0, 0, 0);
        TwoLives sixteen = after(16, "");
        row(sixteen, 5, 0, 0, 0, 0, 0, 0, 0, 0, 0, 0, 0, 0, 0, 0, 0,
                1, 1, 1, 1, 1, 1, 1, 1, 1, 1, 1, 1, 1, 1, 2, 2);
        row(sixteen, 6, 1, 1, 1, 1, 1, 1, 1, 1, 2, 2, 2, 2, 3, 3, 4,
                1, 1, 1, 1, 2, 2, 2, 2, 3, 3, 4, 4, 5, 6, 1, 2);
        row(sixteen, 7, 0, 1, 2, 3, 4, 5, 6, 7, 0, 1, 2, 3, 0, 1, 0,
                0, 1, 2, 3, 0, 1, 2, 3, 0, 1, 0, 1, 0, 0, 0, 0);
    }

    private static void matchTellsWhereTheWinnerGoes() {
        row(after(4, ""), 8, 2, 2, 5, 4, 5, -6, -6);
        row(after(4, ""), 10, 0, 1, 0, 0, 1, -6, -6);
        row(after(8, ""), 8, 4, 4, 5, 5, 6, 6, 13, 9, 10, 11, 11, 12, 13, -6, -6);
        row(after(8, ""), 10, 0, 1, 0, 1, 0, 1, 0, 0, 0, 0, 1, 0, 1, -6, -6);
        row(after(16, ""), 8, 8, 8, 9, 9, 10, 10, 11, 11, 12, 12, 13, 13, 14, 14, 29,
                19, 20, 21, 22, 23, 23, 24, 24, 25, 26, 27, 27, 28, 29, -6, -6);
        row(after(16, ""), 10, 0, 1, 0, 1, 0, 1, 0, 1, 0, 1, 0, 1, 0, 1, 0,
                0, 0, 0, 0, 0, 1, 0, 1, 0, 0, 0, 1, 0, 1, -6, -6);
        row(after(4, "0a,1b,2a,3b,4a,5b"), 8, 2, 2, 5, 4, 5, -6, -6);
    }

    private static void matchTellsWhereTheLoserGoes() {
        for (int cross = 0; cross <= 1; cross++) {
            row(Check.entered(4, cross, ""), 9, 3, 3, 4, -6, -6, -6, -6);
            row(Check.entered(4, cross, ""), 11, 0, 1, 1, -6, -6, -6, -6);
        }
        row(after(8, ""), 9, 7, 7, 8, 8, 9, 10, 12, -6, -6, -6, -6, -6, -6, -6, -6);
        row(Check.entered(8, 1, ""), 9, 7, 7, 8, 8, 10, 9, 12, -6, -6, -6, -6, -6, -6, -6, -6);
        row(Check.entered(8, 1, ""), 11, 0, 1, 0, 1, 1, 1, 1, -6, -6, -6, -6, -6, -6, -6, -6);
        row(after(16, ""), 9, 15, 15, 16, 16, 17, 17, 18, 18, 19, 20, 21, 22, 25, 26, 28,
                -6, -6, -6, -6, -6, -6, -6, -6, -6, -6, -6, -6, -6, -6, -6, -6);
        row(Check.entered(16, 1, ""), 9, 15, 15, 16, 16, 17, 17, 18, 18, 22, 21, 20, 19, 25, 26, 28,
                -6, -6, -6, -6, -6, -6, -6, -6, -6, -6, -6, -6, -6, -6, -6, -6);
        row(Check.entered(16, 1, ""), 11, 0, 1, 0, 1, 0, 1, 0, 1, 1, 1, 1, 1, 1, 1, 1,
                -6, -6, -6, -6, -6, -6, -6, -6, -6, -6, -6, -6, -6, -6, -6, -6);
    }

    // ---- promise 7

    private static void playerRefusesOtherPlayers() {
        for (int n = 2; n <= 16; n++) {
            TwoLives x = after(n, "");
            for (int what = 0; what <= 8; what++) {
                due("the last player", 1, x.player(n - 1, what) != -1 ? 1 : 0);
                due("player(" + n + ", " + what + ")", -1, x.player(n, what));
                due("player(-1, " + what + ")", -1, x.player(-1, what));
            }
            due("player(16, 0)", -1, x.player(16, 0));
            due("player(MIN, 0)", -1, x.player(MIN, 0));
            due("player(MAX, 0)", -1, x.player(MAX, 0));
        }
        Untouched.by("player(11, 0)", -1, x -> x.player(11, 0));
    }

    private static void playerRefusesOtherNumbers() {
        TwoLives x = after(8, "0a");
        for (int p = 0; p < 8; p++) {
            for (int what : new int[] {MIN, -6, -1, 9, 10, MAX}) {
                due("player(" + p + ", " + what + ")", -2, x.player(p, what));
            }
            due("player(" + p + ", 8) is taken", p == 0 || p == 7 ? 1 : 0, x.player(p, 8));
        }
        Untouched.by("player(0, 9)", -2, y -> y.player(0, 9));
        Untouched.by("player(0, -1)", -2, y -> y.player(0, -1));
    }

    private static void playerRefusesThePlayerFirst() {
        TwoLives x = after(8, "");
        due("player(8, 9)", -1, x.player(8, 9));
        due("player(-1, -1)", -1, x.player(-1, -1));
        due("player(MAX, MIN)", -1, x.player(MAX, MIN));
    }

    private static void playerIs(TwoLives x, int p, int what, int want) {
        due("player(" + p + ", " + what + ")", want, x.player(p, what));
    }

    /** Walkovers count for both, byes for nobody. */
    private static void playerTellsWinsAndLosses() {
        TwoLives x = after(3, "");
        playerIs(x, 0, 1, 0);
        playerIs(x, 0, 2, 0);
        x = after(3, "w1");
        playerIs(x, 1, 1, 0);
        playerIs(x, 1, 2, 1);
        playerIs(x, 2, 1, 1);
        playerIs(x, 2, 2, 0);
        x = after(2, "2a,5b,6b");
        playerIs(x, 0, 1, 1);
        playerIs(x, 0, 2, 2);
        playerIs(x, 1, 1, 2);
        playerIs(x, 1, 2, 1);
        x = after(2, "2a,w0");
        playerIs(x, 0, 1, 1);
        playerIs(x, 0, 2, 2);
        playerIs(x, 1, 1, 2);
        playerIs(x, 1, 2, 1);
    }

    private static void playerTellsWhetherItHasWithdrawn() {
        TwoLives x = after(2, "w1");
        playerIs(x, 0, 3, 0);
        playerIs(x, 1, 3, 1);
        x.undo();
        playerIs(x, 1, 3, 0);
    }

    private static void playerTellsItsNextMatch() {
        int[][] where = {{0, 0}, {0, 2}, {0, 5}, {0, 5}, {0, 5}, {0, 6}, {3, -6}};
        String[] acts = {"", "0a", "0a,1a,2a", "0a,1a,2a,3a", "0a,1a,2a,3a,4b", "0a,1a,2a,3a,4b,5b", "0a,1a,2a,3a,4b,5a"};
        int[] bracket = {0, 0, 2, 2, 2, 2, 3};
        for (int i = 0; i < acts.length; i++) {
            TwoLives x = after(4, acts[i]);
            playerIs(x, 0, 4, bracket[i]);
            playerIs(x, 0, 5, where[i][1]);
        }
        TwoLives x = after(4, "0b,1a");
        playerIs(x, 0, 4, 1);
        playerIs(x, 0, 5, 3);
        Check.enter(x, "2a");
        playerIs(x, 1, 4, 1);
        playerIs(x, 1, 5, 4);
        Check.enter(x, "3b");
        playerIs(x, 0, 4, 3);
        playerIs(x, 0, 5, -6);
    }

    private static void playerTellsTheNextMatchOfWhoHasWithdrawn() {
        TwoLives x = after(8, "0a,w0,w7");
        playerIs(x, 0, 4, 0);
        playerIs(x, 0, 5, 4);
        playerIs(x, 7, 4, 1);
        playerIs(x, 7, 5, 7);
        x = after(4, "0a,1a,2a,w0");
        playerIs(x, 0, 4, 2);
        playerIs(x, 0, 5, 5);
        x = after(2, "w0");
        playerIs(x, 0, 4, 3);
        playerIs(x, 0, 5, -6);
    }

    private static void favouritesWin(TwoLives x) {
        int many = x.count(2);
        int m = x.open(0);
        for (int i = 0; i < many && m >= 0; i++) {
            x.result(m, x.match(m, 0) < x.match(m, 1) ? 0 : 1);
            m = x.open(0);
        }
    }

    private static void playerTellsThePlacesItShares() {
        int[][] last = {{1, 2}, {1, 2, 3}, {1, 2, 3, 4}, {1, 2, 3, 4, 5}, {1, 2, 3, 4, 6, 6}, {1, 2, 3, 4, 6, 6, 7},
            {1, 2, 3, 4, 6, 6, 8, 8}, {1, 2, 3, 4, 6, 6, 8, 8, 9}, {1, 2, 3, 4, 6, 6, 8, 8, 10, 10},
            {1, 2, 3, 4, 6, 6, 8, 8, 11, 11, 11}, {1, 2, 3, 4, 6, 6, 8, 8, 12, 12, 12, 12},
            {1, 2, 3, 4, 6, 6, 8, 8, 12, 12, 12, 12, 13}, {1, 2, 3, 4, 6, 6, 8, 8, 12, 12, 12, 12, 14, 14},
            {1, 2, 3, 4, 6, 6, 8, 8, 12, 12, 12, 12, 15, 15, 15}, {1, 2, 3, 4, 6, 6, 8, 8, 12, 12, 12, 12, 16, 16, 16, 16}};
        for (int[] due : last) {
            TwoLives x = after(due.length, "");
            favouritesWin(x);
            for (int p = 0; p < due.length; p++) {
                int best = p;
                while (best > 0 && due[best - 1] == due[p]) {
                    best--;
                }
                due("best place of " + p + " of " + due.length, best + 1, x.player(p, 6));
                due("last place of " + p + " of " + due.length, due[p], x.player(p, 7));
            }
        }
    }

    private static void playerTellsNoPlaceBeforeItHasOne() {
        TwoLives x = after(4, "0a,1a,2a,3a,4b");
        for (int p = 0; p < 2; p++) {
            playerIs(x, p, 6, -6);
            playerIs(x, p, 7, -6);
        }
        playerIs(x, 3, 6, 3);
        playerIs(x, 3, 7, 3);
        playerIs(x, 2, 6, 4);
        playerIs(x, 2, 7, 4);
        Check.enter(x, "5b");
        playerIs(x, 0, 6, -6);
        playerIs(x, 1, 7, -6);
        Check.enter(x, "6b");
        playerIs(x, 0, 6, 2);
        playerIs(x, 0, 7, 2);
        playerIs(x, 1, 6, 1);
        playerIs(x, 1, 7, 1);
    }

    private static void playerTellsMatchesByResults() {
        TwoLives x = after(3, "w1");
        for (int p = 0; p < 3; p++) {
            playerIs(x, p, 8, 0);
        }
        x = after(2, "2a,5b,6b");
        playerIs(x, 0, 8, 3);
        playerIs(x, 1, 8, 3);
        x = after(2, "2a,5b,w0");
        playerIs(x, 0, 8, 2);
        playerIs(x, 1, 8, 2);
    }

    // ---- promise 8

    private static void openRefusesIndexesBelowZero() {
        for (int index : new int[] {MIN, -6, -2, -1}) {
            Untouched.by("open(" + index + ")", -6, x -> x.open(index));
            due("open(" + index + ") of a new object", -6, new TwoLives().open(index));
        }
    }

    private static void openTellsTheFirstAndTheLast() {
        for (int n : new int[] {4, 8, 16}) {
            TwoLives x = after(n, "");
            for (int i = 0; i < n / 2; i++) {
                due("open(" + i + ") of " + n, i, x.open(i));
            }
            due("open(" + n / 2 + ") of " + n, -6, x.open(n / 2));
            due("open(MAX) of " + n, -6, x.open(MAX));
        }
        TwoLives x = after(8, "2a,3a,0b,1b");
        int[] due = {4, 5, 7, 8, -6};
        for (int i = 0; i < due.length; i++) {
            due("open(" + i + ") of the second rounds", due[i], x.open(i));
        }
        Untouched.by("open(0)", 10, y -> y.open(0));
        Untouched.by("open(99)", -6, y -> y.open(99));
    }

    private static void openTellsNoneWhenThereIsNone() {
        due("over", -6, after(2, "2a,5a").open(0));
        due("over by walkovers", -6, after(2, "w1").open(0));
        due("the final is open", 5, after(2, "2a").open(0));
        due("and no other", -6, after(2, "2a").open(1));
        due("the second final is open", 6, after(2, "2a,5b").open(0));
        due("and no other then", -6, after(2, "2a,5b").open(1));
    }

    // ---- promise 9

    private static void countRefusesOtherNumbers() {
        for (int what : new int[] {MIN, -6, -1, 14, 15, MAX}) {
            Untouched.by("count(" + what + ")", -2, x -> x.count(what));
        }
        Untouched.by("count(0)", 11, x -> x.count(0));
        Untouched.by("count(13)", 6, x -> x.count(13));
    }

    private static void countTellsTheTournament() {
        int[] sizes = {4, 4, 4, 8, 8, 8, 8, 16, 16, 16, 16, 16, 16, 16, 16};
        for (int n = 2; n <= 16; n++) {
            for (int cross = 0; cross <= 1; cross++) {
                TwoLives x = Check.entered(n, cross, "");
                due("count(0) of " + n, n, x.count(0));
                due("count(1) of " + n, sizes[n - 2], x.count(1));
                due("count(2) of " + n, 2 * sizes[n - 2] - 1, x.count(2));
                due("count(3) of " + n, cross, x.count(3));
            }
        }
    }

    private static void decidedAre(String acts, int players, int results, int walkovers, int byes) {
        TwoLives x = after(players, acts);
        due(players + " players, " + acts + ": results", results, x.count(4));
        due(players + " players, " + acts + ": walkovers", walkovers, x.count(5));
        due(players + " players, " + acts + ": byes", byes, x.count(6));
    }

    private static void countTellsDecidedMatches() {
        decidedAre("", 4, 0, 0, 0);
        decidedAre("", 16, 0, 0, 0);
        decidedAre("", 15, 0, 0, 1);
        decidedAre("", 2, 0, 0, 3);
        decidedAre("2a", 2, 1, 0, 4);
        decidedAre("2a,5b,6b", 2, 3, 0, 4);
        decidedAre("w0", 2, 0, 2, 4);
        decidedAre("0a,1a,2a,3a,4b,5b,6a", 4, 7, 0, 0);
        decidedAre("0a,1a,2a,3a,4b,w0", 4, 5, 2, 0);
    }

    private static void countTellsMatchesThatCanBePlayed() {
        due("of sixteen", 8, after(16, "").count(7));
        due("of two", 1, after(2, "").count(7));
        due("of three", 1, after(3, "").count(7));
        due("when it is over", 0, after(2, "2a,5a").count(7));
        due("not a match with who has withdrawn", 3, after(8, "w0").count(7));
    }

    private static void countTellsTheChampion() {
        due("of a new tournament", -6, after(4, "").count(8));
        due("before the final", -6, after(4, "0a,1a,2a,3a,4b").count(8));
        due("side 0 has won the final", 0, after(4, "0a,1a,2a,3a,4b,5a").count(8));
        due("side 1 has won the final", -6, after(4, "0a,1a,2a,3a,4b,5b").count(8));
        due("side 0 has won the second final", 0, after(4, "0a,1a,2a,3a,4b,5b,6a").count(8));
        due("side 1 has won the second final", 1, after(4, "0a,1a,2a,3a,4b,5b,6b").count(8));
        due("by walkovers", 1, after(2, "w0").count(8));
    }

    private static void countTellsPlayersWhoHaveAPlace() {
        String acts = "0a,1a,2a,3a,4b,5b,6a";
        int[] placed = {0, 0, 0, 0, 1, 2, 2, 4};
        for (int many = 0; many < placed.length; many++) {
            int end = Math.max(0, 3 * many - 1);
            due("after " + many + " results", placed[many], after(4, acts.substring(0, end)).count(9));
        }
        due("one final", 4, after(4, "0a,1a,2a,3a,4b,5a").count(9));
        due("who has withdrawn and waits", 0, after(4, "0a,w0").count(9));
        TwoLives x = after(16, "");
        favouritesWin(x);
        due("all of sixteen", 16, x.count(9));
    }

    private static void boundsAre(String acts, int players, int least, int greatest) {
        TwoLives x = after(players, acts);
        due(players + " players, " + acts + ": least", least, x.count(10));
        due(players + " players, " + acts + ": greatest", greatest, x.count(11));
    }

    private static void countTellsTheResultsOfANewTournament() {
        for (int n = 2; n <= 16; n++) {
            boundsAre("", n, 2 * n - 2, 2 * n - 1);
        }
    }

    private static void countTellsTheResultsBeforeTheEnd() {
        boundsAre("0a", 4, 5, 6);
        boundsAre("0a,1a,2a,3a,4b", 4, 1, 2);
        boundsAre("0a,1a,2a,3a,4b,5a", 4, 0, 0);
        boundsAre("0a,1a,2a,3a,4b,5b", 4, 1, 1);
        boundsAre("0a,1a,2a,3a,4b,5b,6b", 4, 0, 0);
        boundsAre("2a", 2, 1, 2);
        boundsAre("2a,5b", 2, 1, 1);
        boundsAre("2a,5a", 2, 0, 0);
    }

    private static void countTellsNoResultsForWalkovers() {
        boundsAre("w0", 2, 0, 0);
        boundsAre("w0", 4, 4, 5);
        boundsAre("w0,w1", 4, 2, 3);
        boundsAre("w0,w1,w2", 4, 0, 0);
        boundsAre("0a,1a,2a,w0", 4, 2, 2);
        boundsAre("0a,1a,2a,3a,w0", 4, 1, 1);
        boundsAre("0a,1a,2a,3a,4b,w0", 4, 0, 0);
        boundsAre("0a,1a,2a,3a,w3", 4, 1, 2);
    }

    private static void countTellsTheLengthOfThePad() {
        TwoLives x = new TwoLives();
        due("empty", 0, x.count(12));
        Check.putAll(x, "123456781234567812345678123456781234567812345678123456781234");
        due("full", 60, x.count(12));
        due("refused", -4, x.put(Check.packed("a")));
        due("full still", 60, x.count(12));
        x.wipe();
        due("wiped", 0, x.count(12));
    }

    private static void countTellsTheActs() {
        TwoLives x = after(16, "");
        due("none", 0, x.count(13));
        for (int m = 0; m < 31; m++) {
            x.result(m, m == 29 ? 1 : 0);
            due("acts after " + m, m + 1, x.count(13));
        }
        due("one more is refused", -5, x.result(30, 0));
        due("31 acts", 31, x.count(13));
        due("undo()", 30, x.undo());
        due("30 acts", 30, x.count(13));
    }
}
