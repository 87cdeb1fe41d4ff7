/** The sentences of the Description that the promises rest on, at their edges. */
final class DescriptionEdgesTest {
    private static final int[] SEEDS_OF_4 = {0, 3, 1, 2};
    private static final int[] SEEDS_OF_8 = {0, 7, 3, 4, 1, 6, 2, 5};
    private static final int[] SEEDS_OF_16 = {0, 15, 7, 8, 3, 12, 4, 11, 1, 14, 6, 9, 2, 13, 5, 10};

    private DescriptionEdgesTest() {
    }

    public static void main(String[] args) {
        constants();
        theSizeIsTheLeastThatIsEnough();
        ratingsAtFirst();
        seedsAndByes();
        winnersAndLosersGoWhereTheirMatchesLead();
        theSecondFinalHasTheSamePlayersOnTheSameSides();
        theSecondFinalIsNotPlayedOtherwise();
        aByeIsDecidedAsSoonAsBothSidesAreKnown();
        aByeIsNoWinAndNoLoss();
        aByeGoesBeforeAWalkover();
        aWalkoverIsDecidedAsSoonAsBothSidesAreKnown();
        aWalkoverOfBothGoesToSideZero();
        aResultStaysWhenAPlayerWithdraws();
        aLossByAWalkoverIsALoss();
        whoHasWithdrawnPlaysNoMore();
        byesDoNotDependOnResults();
        placesFillAllFromFirstToLast();
        Check.end();
    }

    private static void due(String call, int want, int got) {
        Check.due(call, want, got);
    }

    private static TwoLives after(int players, String acts) {
        return Check.entered(players, 0, acts);
    }

    private static void constants() {
        due("NO_SUCH", -1, TwoLives.NO_SUCH);
        due("BAD_VALUE", -2, TwoLives.BAD_VALUE);
        due("BAD_TEXT", -3, TwoLives.BAD_TEXT);
        due("TOO_MANY", -4, TwoLives.TOO_MANY);
        due("NOT_POSSIBLE", -5, TwoLives.NOT_POSSIBLE);
        due("NONE", -6, TwoLives.NONE);
        due("BYE", 16, TwoLives.BYE);
    }

    private static void theSizeIsTheLeastThatIsEnough() {
        int[] players = {2, 4, 5, 8, 9, 16};
        int[] sizes = {4, 4, 8, 8, 16, 16};
        for (int i = 0; i < players.length; i++) {
            due("S of " + players[i], sizes[i], after(players[i], "").count(1));
        }
    }

    private static void ratingsAtFirst() {
        TwoLives x = after(16, "");
        for (int p = 0; p < 16; p++) {
            due("rating of " + p, 1500 - 10 * p, x.player(p, 0));
        }
    }

    private static void seedsAndByes() {
        for (int n = 2; n <= 16; n++) {
            int[] seeds = n <= 4 ? SEEDS_OF_4 : n <= 8 ? SEEDS_OF_8 : SEEDS_OF_16;
            TwoLives x = after(n, "");
            for (int i = 0; i < seeds.length; i++) {
                int want = seeds[i] < n ? seeds[i] : 16;
                due("seat " + i + " of " + n, want, x.match(i / 2, i % 2));
            }
        }
    }

    /** Plays on, so that the side that wins differs from match to match. */
    private static void playOn(TwoLives x, int first) {
        int next = x.open(0);
        for (int i = 0; i < 31 && next >= 0; i++) {
            x.result(next, (first + next) % 2);
            next = x.open(0);
        }
    }

    private static void winnersAndLosersGoWhereTheirMatchesLead() {
        for (int n = 2; n <= 16; n++) {
            for (int cross = 0; cross <= 1; cross++) {
                TwoLives x = Check.entered(n, cross, "");
                playOn(x, 0);
                int first = x.count(2) - 2;
                for (int m = 0; m < first; m++) {
                    due("winner of " + m + " of " + n, x.match(m, 2), x.match(x.match(m, 8), x.match(m, 10)));
                    if (x.match(m, 9) >= 0) {
                        due("loser of " + m + " of " + n, x.match(m, 3), x.match(x.match(m, 9), x.match(m, 11)));
                    }
                }
            }
        }
    }

    private static void theSecondFinalHasTheSamePlayersOnTheSameSides() {
        TwoLives x = after(4, "0a,1a,2a,3a,4b,5b");
        due("side 0", x.match(5, 0), x.match(6, 0));
        due("side 1", x.match(5, 1), x.match(6, 1));
        due("it is 0 against 1", 1, x.match(6, 0) == 0 && x.match(6, 1) == 1 ? 1 : 0);
        x = after(4, "0a,1a,2a,3a,4b,w0");
        due("by a walkover, side 0", 0, x.match(6, 0));
        due("by a walkover, side 1", 1, x.match(6, 1));
        due("which is a walkover, too", 2, x.match(6, 4));
    }

    private static void theSecondFinalIsNotPlayedOtherwise() {
        String[] acts = {"", "0a,1a,2a,3a,4b", "0a,1a,2a,3a,4b,5a", "0a,1a,2a,3a,4b,w1"};
        for (String act : acts) {
            TwoLives x = after(4, act);
            int[] want = {-6, -6, -6, -6, 0};
            for (int what = 0; what < want.length; what++) {
                due("match(6, " + what + ") after " + act, want[what], x.match(6, what));
            }
        }
    }

    private static void aByeIsDecidedAsSoonAsBothSidesAreKnown() {
        TwoLives x = after(5, "");
        due("player and bye", 1, x.match(0, 4));
        due("bye and bye", 1, x.match(8, 4));
        due("bye and nobody known", 0, x.match(7, 4));
        due("its winner", -6, x.match(7, 2));
        Check.enter(x, "1a");
        due("bye and loser", 1, x.match(7, 4));
        due("the other side wins", 4, x.match(7, 2));
        due("the bye loses", 16, x.match(7, 3));
        x = after(6, "3a");
        due("loser and bye on either side", 5, x.match(8, 2));
        x = after(7, "1a");
        due("the loser of 1 and the bye of 0", 4, x.match(7, 2));
        due("no bye in the other match", 0, x.match(8, 4));
    }

    private static void aByeIsNoWinAndNoLoss() {
        TwoLives x = after(5, "1a");
        int[][] want = {{0, 0, 0}, {0, 0, 0}, {0, 0, 0}, {1, 0, 1}, {0, 1, 1}};
        for (int p = 0; p < want.length; p++) {
            due("wins of " + p, want[p][0], x.player(p, 1));
            due("losses of " + p, want[p][1], x.player(p, 2));
            due("played of " + p, want[p][2], x.player(p, 8));
        }
    }

    private static void aByeGoesBeforeAWalkover() {
        TwoLives x = after(5, "w4");
        due("withdrawn 4 meets a bye", 1, x.match(7, 4));
        due("and goes on", 4, x.match(7, 2));
        due("walkovers", 1, x.count(5));
        x = after(5, "w0");
        due("withdrawn behind a bye", 1, x.match(0, 4));
        due("its winner stays", 0, x.match(0, 2));
        due("no walkover yet", 0, x.count(5));
    }

    private static void aWalkoverIsDecidedAsSoonAsBothSidesAreKnown() {
        TwoLives x = after(8, "0a,w0");
        due("nobody known yet", 0, x.match(4, 4));
        Check.enter(x, "1b");
        due("by a walkover", 2, x.match(4, 4));
        due("the other side wins", 4, x.match(4, 2));
        due("withdrawn 0 waits in the lower bracket", 9, x.player(0, 5));
        x = after(8, "w7");
        due("side 1 has withdrawn", 0, x.match(0, 2));
        x = after(8, "w0");
        due("side 0 has withdrawn", 7, x.match(0, 2));
    }

    private static void aWalkoverOfBothGoesToSideZero() {
        for (String acts : new String[] {"w0,w7", "w7,w0"}) {
            TwoLives x = after(8, acts);
            due("winner after " + acts, 0, x.match(0, 2));
            due("loser after " + acts, 7, x.match(0, 3));
            due("how after " + acts, 2, x.match(0, 4));
        }
        TwoLives x = after(8, "0a,1a,w0,w3");
        due("both waited for it", 0, x.match(4, 2));
    }

    private static void aResultStaysWhenAPlayerWithdraws() {
        for (String acts : new String[] {"0b,w7", "0b,w0", "0b,w0,w7", "0b,w7,w0"}) {
            TwoLives x = after(8, acts);
            due("winner after " + acts, 7, x.match(0, 2));
            due("how after " + acts, 3, x.match(0, 4));
            due("wins of 7", 1, x.player(7, 1));
            due("results of 0", 1, x.player(0, 8));
        }
    }

    private static void aLossByAWalkoverIsALoss() {
        TwoLives x = after(8, "w7");
        due("losses of 7", 1, x.player(7, 2));
        due("wins of 0", 1, x.player(0, 1));
        Check.enter(x, "1a");
        due("losses of 7 then", 2, x.player(7, 2));
        due("its place", 7, x.player(7, 6));
        due("played of 7", 0, x.player(7, 8));
    }

    private static void whoHasWithdrawnPlaysNoMore() {
        TwoLives x = after(16, "w3,w8,w0,w15,w10");
        for (int i = 0; i < 31 && x.open(0) >= 0; i++) {
            int next = x.open(0);
            for (int side = 0; side <= 1; side++) {
                due("who plays in " + next, 0, x.player(x.match(next, side), 3));
            }
            x.result(next, i % 2);
        }
        for (int p : new int[] {3, 8, 0, 15, 10}) {
            due("results of " + p, 0, x.player(p, 8));
            due("losses of " + p, 2, x.player(p, 2));
        }
    }

    private static void byesDoNotDependOnResults() {
        for (int n = 2; n <= 16; n++) {
            TwoLives one = after(n, "");
            TwoLives other = after(n, "");
            playOn(one, 0);
            playOn(other, 1);
            for (int m = 0; m < one.count(2) - 2; m++) {
                due("a bye in " + m + " of " + n, one.match(m, 4), other.match(m, 4));
            }
        }
    }

    private static void placesFillAllFromFirstToLast() {
        for (int n = 2; n <= 16; n++) {
            for (int first = 0; first <= 1; first++) {
                TwoLives x = after(n, "");
                playOn(x, first);
                int[] sharing = new int[n];
                int[] width = new int[n];
                for (int p = 0; p < n; p++) {
                    int best = x.player(p, 6);
                    int last = x.player(p, 7);
                    for (int place = best; place <= last; place++) {
                        sharing[place - 1]++;
                        width[place - 1] = last - best + 1;
                    }
                }
                for (int place = 1; place <= n; place++) {
                    due("players who share place " + place + " of " + n, width[place - 1], sharing[place - 1]);
                    due("place " + place + " of " + n + " is somebody's", 1, sharing[place - 1] > 0 ? 1 : 0);
                }
            }
        }
    }
}
