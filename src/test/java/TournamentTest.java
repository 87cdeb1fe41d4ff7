/** Promises 1 to 9: the tournament, and what there is to be told about it. */
final class TournamentTest {
    private static TwoLives x;

    private TournamentTest() {
    }

    public static void main(String[] args) {
        newObject();
        setUp();
        setUpStartsAnew();
        rate();
        result();
        withdraw();
        bothHaveWithdrawn();
        withdrawnBehindResults();
        withdrawnInTheSecondFinal();
        withdrawnPlayersMeet();
        orderOfWithdrawals();
        waysOfEight();
        waysOfSixteen();
        matchesWithByes();
        secondFinal();
        player();
        places();
        open();
        count();
        resultsToCome();
        Check.end();
    }

    private static void due(String call, int want, int got) {
        Check.due(call, want, got);
    }

    private static void fresh(int players, int cross) {
        x = new TwoLives();
        x.setUp(players, cross);
    }

    private static void play(String acts) {
        Check.play(x, acts);
    }

    private static void newObject() {
        x = new TwoLives();
        int[] due = {8, 8, 15, 0, 0, 0, 0, 4, -6, 0, 14, 15, 0, 0};
        for (int what = 0; what < due.length; what++) {
            due("new: count(" + what + ")", due[what], x.count(what));
        }
        for (int p = 0; p < 8; p++) {
            due("new: player(" + p + ", 0)", 1500 - 10 * p, x.player(p, 0));
        }
        due("new: restore(0)", -5, x.restore(0));
        due("new: restore(1)", -5, x.restore(1));
        due("new: undo()", -5, x.undo());
        due("new: wipe()", 0, x.wipe());
    }

    private static void setUp() {
        x = new TwoLives();
        int[] sizes = {4, 4, 4, 8, 8, 8, 8, 16, 16, 16, 16, 16, 16, 16, 16};
        for (int n = 2; n <= 16; n++) {
            due("setUp(" + n + ", 1)", 2 * sizes[n - 2] - 1, x.setUp(n, 1));
            due("players", n, x.count(0));
            due("size for " + n, sizes[n - 2], x.count(1));
            due("matches for " + n, 2 * sizes[n - 2] - 1, x.count(2));
            due("cross", 1, x.count(3));
        }
        int[][] wrong = {{1, 0}, {17, 0}, {0, 0}, {-1, 1}, {8, 2}, {8, -1}, {Integer.MAX_VALUE, 0}, {2, Integer.MIN_VALUE}};
        for (int[] w : wrong) {
            due("setUp(" + w[0] + ", " + w[1] + ")", -2, x.setUp(w[0], w[1]));
        }
        due("players after wrong calls", 16, x.count(0));
        due("cross after wrong calls", 1, x.count(3));
    }

    private static void setUpStartsAnew() {
        fresh(8, 0);
        play("0a,w3");
        due("save(1)", 1, x.save(1));
        x.rate(0, 3);
        Check.putAll(x, "1a");
        due("setUp that fails", -2, x.setUp(1, 0));
        due("acts stay", 2, x.count(13));
        due("setUp(4, 1)", 7, x.setUp(4, 1));
        due("acts are gone", 0, x.count(13));
        due("undo()", -5, x.undo());
        due("rating is as at first", 1500, x.player(0, 0));
        due("nobody has withdrawn", 0, x.player(3, 3));
        due("no result", 0, x.count(4));
        due("the pad stays", 2, x.count(12));
        due("the slots stay", 1, x.restore(1));
        due("players of the slot", 8, x.count(0));
    }

    private static void rate() {
        fresh(5, 0);
        due("rate(4, 0)", 1460, x.rate(4, 0));
        due("rate(4, 9999)", 0, x.rate(4, 9999));
        due("rate(4, 10000)", -2, x.rate(4, 10000));
        due("rate(4, -1)", -2, x.rate(4, -1));
        due("rate(5, 0)", -1, x.rate(5, 0));
        due("rate(-1, 0)", -1, x.rate(-1, 0));
        due("rate(16, -1)", -1, x.rate(16, -1));
        due("player(4, 0)", 9999, x.player(4, 0));
        due("a rating is no act", 0, x.count(13));
    }

    private static void result() {
        fresh(6, 0);
        due("result(15, 5)", -1, x.result(15, 5));
        due("result(-1, 0)", -1, x.result(-1, 0));
        due("result(1, 2)", -2, x.result(1, 2));
        due("result(4, -1)", -2, x.result(4, -1));
        due("a match with a bye", -5, x.result(0, 0));
        due("one side is not known", -5, x.result(4, 0));
        due("no side is known", -5, x.result(13, 0));
        due("no players", -5, x.result(14, 0));
        due("result(1, 1)", 4, x.result(1, 1));
        due("decided already", -5, x.result(1, 1));
        due("result(3, 0)", 2, x.result(3, 0));
        due("result(4, 0)", 0, x.result(4, 0));
        due("acts", 3, x.count(13));
        due("winner", 4, x.match(1, 2));
        due("loser", 3, x.match(1, 3));
        due("how", 3, x.match(1, 4));
        due("loser beats a bye", 3, x.match(7, 2));
    }

    private static void withdraw() {
        fresh(8, 0);
        due("withdraw(8)", -1, x.withdraw(8));
        due("withdraw(-1)", -1, x.withdraw(-1));
        due("withdraw(16)", -1, x.withdraw(16));
        play("0a,1a,7a");
        due("withdraw(4), out in the lower bracket", -5, x.withdraw(4));
        due("withdraw(7), who waits", 0, x.withdraw(7));
        due("withdraw(7) again", -5, x.withdraw(7));
        due("next match is told", 9, x.player(7, 5));
        due("bracket is told", 1, x.player(7, 4));
        play("4a");
        due("the opponent comes", 2, x.match(9, 4));
        due("and goes on", 3, x.match(9, 2));
        due("place of 7", 5, x.player(7, 6));
        due("results stay", 0, x.match(0, 2));
        fresh(5, 0);
        due("withdraw(3): walkover, and then a bye", 2, x.withdraw(3));
        due("walkover", 2, x.match(1, 4));
        due("bye", 1, x.match(7, 4));
        due("winner of the bye", 3, x.match(7, 2));
        fresh(2, 0);
        due("withdraw(0): walkover, bye and walkover", 3, x.withdraw(0));
        due("champion", 1, x.count(8));
        due("withdraw(1), the champion", -5, x.withdraw(1));
        fresh(2, 0);
        play("2a,5a");
        due("withdraw(1), the second", -5, x.withdraw(1));
        due("withdraw(0), the first", -5, x.withdraw(0));
    }

    private static void bothHaveWithdrawn() {
        x = new TwoLives();
        due("withdraw(3)", 1, x.withdraw(3));
        due("4 wins", 4, x.match(1, 2));
        due("withdraw(4), who has won the same match", 0, x.withdraw(4));
        due("side 0 wins", 3, x.match(1, 2));
        due("side 1 loses", 4, x.match(1, 3));
        due("by a walkover", 2, x.match(1, 4));
        due("wins of 3", 1, x.player(3, 1));
        due("losses of 3", 0, x.player(3, 2));
        due("wins of 4", 0, x.player(4, 1));
        due("losses of 4", 1, x.player(4, 2));
        due("3 goes on", 3, x.match(4, 1));
        due("4 goes down", 4, x.match(7, 1));
        due("next of 3", 4, x.player(3, 5));
        due("next of 4", 7, x.player(4, 5));
        due("undo()", 1, x.undo());
        due("4 wins again", 4, x.match(1, 2));
        due("withdrawn 4", 0, x.player(4, 3));
        due("withdrawn 3", 1, x.player(3, 3));
        x = new TwoLives();
        due("withdraw(4)", 1, x.withdraw(4));
        due("withdraw(3), the winner on side 0", 0, x.withdraw(3));
        due("side 0 wins, too", 3, x.match(1, 2));
        x = new TwoLives();
        play("1b,w3,w4");
        due("but not against a result", 4, x.match(1, 2));
    }

    /** 4 wins by a walkover and plays on; when it withdraws, too, 3 stands where it stood. */
    private static void withdrawnBehindResults() {
        x = new TwoLives();
        play("w3,0a,4b");
        due("winner of match 4", 4, x.match(4, 2));
        due("place of 3", 7, x.player(3, 6));
        due("last place of 3", 8, x.player(3, 7));
        due("save(0)", 2, x.save(0));
        due("withdraw(4)", 0, x.withdraw(4));
        due("3 stands in match 4", 3, x.match(4, 1));
        due("whose result stays", 3, x.match(4, 2));
        due("0 has lost it", 0, x.match(4, 3));
        due("how", 3, x.match(4, 4));
        due("results", 2, x.count(4));
        due("walkovers", 2, x.count(5));
        due("3 waits in the upper bracket", 6, x.player(3, 5));
        due("3 has no place", -6, x.player(3, 6));
        due("4 has met 7 in the lower bracket", 4, x.match(7, 1));
        due("place of 4", 7, x.player(4, 6));
        due("last place of 4", 8, x.player(4, 7));
        due("played of 0", 2, x.player(0, 8));
        due("withdraw(4) again", -5, x.withdraw(4));
        due("results that are saved", 2, x.restore(0));
        due("4 stands in match 4", 4, x.match(4, 1));
        due("4 waits in the upper bracket", 6, x.player(4, 5));
        due("withdraw(4) behind restore()", 0, x.withdraw(4));
        due("3 stands in match 4 again", 3, x.match(4, 1));
        due("save(0)", 2, x.save(0));
        x.setUp(2, 0);
        due("restored", 2, x.restore(0));
        due("3 stands there then", 3, x.match(4, 2));
        due("undo()", 3, x.undo());
        due("and 4 after undo()", 4, x.match(4, 2));
    }

    private static void withdrawnInTheSecondFinal() {
        fresh(4, 0);
        play("w0,1a,2a,4b,5b");
        due("3 against 1", 3, x.match(6, 0));
        due("place of 0", 4, x.player(0, 6));
        due("withdraw(3)", 1, x.withdraw(3));
        due("0 stands in the second final", 0, x.match(6, 0));
        due("champion", 1, x.count(8));
        int[] places = {2, 1, 3, 4};
        int[] wins = {2, 4, 1, 0};
        for (int p = 0; p < 4; p++) {
            due("place of " + p, places[p], x.player(p, 7));
            due("wins of " + p, wins[p], x.player(p, 1));
        }
        due("walkovers", 3, x.count(5));
        due("undo()", 5, x.undo());
        due("3 stands there", 3, x.match(6, 0));
        due("least", 1, x.count(10));
        due("greatest", 1, x.count(11));
    }

    private static void withdrawnPlayersMeet() {
        fresh(4, 0);
        x.withdraw(0);
        x.withdraw(3);
        due("withdraw(1)", 5, x.withdraw(1));
        due("side 0 wins", 3, x.match(3, 2));
        due("side 0 wins again", 3, x.match(4, 2));
        due("champion", 2, x.count(8));
        due("walkovers", 6, x.count(5));
        due("no second final", -6, x.match(6, 0));
        int[] places = {3, 4, 1, 2};
        for (int p = 0; p < 4; p++) {
            due("place of " + p, places[p], x.player(p, 6));
        }
        due("wins of 3", 2, x.player(3, 1));
        due("wins of 0", 1, x.player(0, 1));
        due("played of 3", 0, x.player(3, 8));
    }

    /** How things stand does not depend on who withdrew first. */
    private static void orderOfWithdrawals() {
        for (int n = 2; n <= 16; n++) {
            for (int stay = 0; stay < n; stay++) {
                fresh(n, n % 2);
                for (int p = 0; p < n; p++) {
                    due("withdraw(" + p + ") of " + n, 1, p == stay || x.withdraw(p) >= 0 ? 1 : 0);
                }
                String upwards = Check.told(x);
                fresh(n, n % 2);
                for (int p = n - 1; p >= 0; p--) {
                    due("withdraw(" + p + ") of " + n, 1, p == stay || x.withdraw(p) >= 0 ? 1 : 0);
                }
                due("champion of " + n, stay, x.count(8));
                due("the order of withdrawals of " + n, 1, upwards.equals(Check.told(x)) ? 1 : 0);
            }
        }
    }

    private static void row(String name, int what, int first, int... due) {
        for (int i = 0; i < due.length; i++) {
            due(name + ": match(" + (first + i) + ", " + what + ")", due[i], x.match(first + i, what));
        }
    }

    private static void waysOfEight() {
        fresh(8, 0);
        row("8", 0, 0, 0, 3, 1, 2, -6, -6, -6, -6, -6, -6, -6, -6, -6, -6, -6);
        row("8", 1, 0, 7, 4, 6, 5, -6, -6, -6, -6, -6, -6, -6, -6, -6, -6, -6);
        row("8", 5, 0, 0, 0, 0, 0, 0, 0, 0, 1, 1, 1, 1, 1, 1, 2, 2);
        row("8", 6, 0, 1, 1, 1, 1, 2, 2, 3, 1, 1, 2, 2, 3, 4, 1, 2);
        row("8", 7, 0, 0, 1, 2, 3, 0, 1, 0, 0, 1, 0, 1, 0, 0, 0, 0);
        row("8", 8, 0, 4, 4, 5, 5, 6, 6, 13, 9, 10, 11, 11, 12, 13, -6, -6);
        row("8", 10, 0, 0, 1, 0, 1, 0, 1, 0, 0, 0, 0, 1, 0, 1, -6, -6);
        row("8", 9, 0, 7, 7, 8, 8, 9, 10, 12, -6, -6, -6, -6, -6, -6, -6, -6);
        row("8", 11, 0, 0, 1, 0, 1, 1, 1, 1, -6, -6, -6, -6, -6, -6, -6, -6);
        fresh(8, 1);
        row("8 crossed", 9, 0, 7, 7, 8, 8, 10, 9, 12);
        due("match(15, 0)", -1, x.match(15, 0));
        due("match(-1, 12)", -1, x.match(-1, 12));
        due("match(0, 12)", -2, x.match(0, 12));
        due("match(0, -1)", -2, x.match(0, -1));
        due("match(0, 2)", -6, x.match(0, 2));
        due("match(0, 3)", -6, x.match(0, 3));
        due("match(0, 4)", 0, x.match(0, 4));
    }

    private static void waysOfSixteen() {
        fresh(16, 0);
        row("16", 0, 0, 0, 7, 3, 4, 1, 6, 2, 5);
        row("16", 1, 0, 15, 8, 12, 11, 14, 9, 13, 10);
        row("16", 9, 8, 19, 20, 21, 22, 25, 26, 28);
        row("16", 8, 15, 19, 20, 21, 22, 23, 23, 24, 24, 25, 26, 27, 27, 28, 29, -6, -6);
        row("16", 6, 15, 1, 1, 1, 1, 2, 2, 2, 2, 3, 3, 4, 4, 5, 6, 1, 2);
        fresh(16, 1);
        row("16 crossed", 9, 8, 22, 21, 20, 19, 25, 26, 28);
    }

    private static void matchesWithByes() {
        fresh(9, 0);
        row("9", 4, 0, 1, 0, 1, 1, 1, 1, 1, 1);
        row("9", 4, 15, 0, 1, 1, 1, 0, 0, 0, 0);
        row("9", 2, 15, -6, 16, 16, 16);
        row("9", 3, 15, -6, 16, 16, 16);
        row("9", 0, 20, 16, 16, 16);
        due("byes", 10, x.count(6));
        due("a bye is no win", 0, x.player(0, 1));
        play("1b");
        due("loser meets a bye", 7, x.match(15, 2));
        due("side 1 has beaten side 0", 16, x.match(15, 3));
        due("and waits", 19, x.player(7, 5));
        due("losses of 7", 1, x.player(7, 2));
    }

    private static void secondFinal() {
        fresh(4, 0);
        play("0a,1a,2a,3a,4b");
        due("no second final yet", -6, x.match(6, 0));
        play("5b");
        due("side 0", 0, x.match(6, 0));
        due("side 1", 1, x.match(6, 1));
        due("next match of 0", 6, x.player(0, 5));
        due("where it is", 2, x.player(1, 4));
        due("no place yet", -6, x.player(0, 6));
        play("6a");
        due("champion", 0, x.count(8));
        due("place of 1", 2, x.player(1, 7));
        x.undo();
        x.undo();
        play("w0");
        due("walkover in the final", 2, x.match(5, 4));
        due("and in the second final", 2, x.match(6, 4));
        due("champion", 1, x.count(8));
        due("losses", 2, x.player(0, 2));
        x.undo();
        play("5b,w1");
        due("withdrawn between the finals", 0, x.count(8));
    }

    private static void player() {
        fresh(4, 0);
        due("player(4, 9)", -1, x.player(4, 9));
        due("player(-1, 0)", -1, x.player(-1, 0));
        due("player(3, 9)", -2, x.player(3, 9));
        due("player(3, -1)", -2, x.player(3, -1));
        int[] first = {1470, 0, 0, 0, 0, 0, -6, -6, 0};
        for (int what = 0; what < 9; what++) {
            due("player(3, " + what + ") at first", first[what], x.player(3, what));
        }
        play("0b,w0,1a,2a");
        int[][] due = {
            {1500, 0, 2, 1, 3, -6, 4, 4, 1},
            {1490, 1, 1, 0, 1, 4, -6, -6, 2},
            {1480, 1, 1, 0, 1, 4, -6, -6, 1},
            {1470, 2, 0, 0, 2, 5, -6, -6, 2}};
        for (int p = 0; p < 4; p++) {
            for (int what = 0; what < 9; what++) {
                due("player(" + p + ", " + what + ")", due[p][what], x.player(p, what));
            }
        }
    }

    private static void favouritesWin() {
        for (int m = x.open(0); m >= 0; m = x.open(0)) {
            x.result(m, x.match(m, 0) < x.match(m, 1) ? 0 : 1);
        }
    }

    private static void placesDue(int n, int... due) {
        fresh(n, 0);
        favouritesWin();
        for (int p = 0; p < n; p++) {
            due("best place of " + p + " of " + n, due[2 * p], x.player(p, 6));
            due("last place of " + p + " of " + n, due[2 * p + 1], x.player(p, 7));
        }
    }

    private static void places() {
        placesDue(2, 1, 1, 2, 2);
        placesDue(3, 1, 1, 2, 2, 3, 3);
        placesDue(4, 1, 1, 2, 2, 3, 3, 4, 4);
        placesDue(8, 1, 1, 2, 2, 3, 3, 4, 4, 5, 6, 5, 6, 7, 8, 7, 8);
        placesDue(16, 1, 1, 2, 2, 3, 3, 4, 4, 5, 6, 5, 6, 7, 8, 7, 8, 9, 12, 9, 12, 9, 12, 9, 12,
                13, 16, 13, 16, 13, 16, 13, 16);
        placesDue(9, 1, 1, 2, 2, 3, 3, 4, 4, 5, 6, 5, 6, 7, 8, 7, 8, 9, 9);
    }

    private static void open() {
        fresh(6, 0);
        due("open(0)", 1, x.open(0));
        due("open(1)", 3, x.open(1));
        due("open(2)", -6, x.open(2));
        due("open(-1)", -6, x.open(-1));
        due("open(MAX)", -6, x.open(Integer.MAX_VALUE));
        play("3a,1a");
        due("open(0) then", 4, x.open(0));
        due("open(1) then", 5, x.open(1));
        due("open(2) then", -6, x.open(2));
        x.withdraw(0);
        due("not after a walkover", 5, x.open(0));
    }

    private static void count() {
        fresh(5, 1);
        play("1a,w2,4b,6b");
        int[] due = {5, 8, 15, 1, 3, 1, 6, 2, -6, 0, 3, 4, 0, 4};
        for (int what = 0; what < due.length; what++) {
            if (what < 5 || what == 8 || what > 11) {
                due("count(" + what + ")", due[what], x.count(what));
            }
        }
        due("count(14)", -2, x.count(14));
        due("count(-1)", -2, x.count(-1));
        due("count(MIN)", -2, x.count(Integer.MIN_VALUE));
        Check.putAll(x, "zz9");
        due("length of the pad", 3, x.count(12));
        fresh(3, 0);
        due("byes of 3", 1, x.count(6));
        play("1a");
        due("byes of 3 then", 2, x.count(6));
        due("matches to play", 1, x.count(7));
        play("2a");
        due("players with a place", 0, x.count(9));
        play("4a");
        due("players with a place then", 1, x.count(9));
        play("5a");
        due("all have a place", 3, x.count(9));
        due("champion", 0, x.count(8));
    }

    private static void bounds(String name, int least, int greatest) {
        due(name + ": least", least, x.count(10));
        due(name + ": greatest", greatest, x.count(11));
    }

    private static void resultsToCome() {
        for (int n = 2; n <= 16; n++) {
            fresh(n, 0);
            bounds("new, " + n, 2 * n - 2, 2 * n - 1);
        }
        fresh(4, 0);
        play("0a,1a,2a,3a,4a");
        bounds("before the final", 1, 2);
        play("5b");
        bounds("before the second final", 1, 1);
        play("6b");
        bounds("over", 0, 0);
        fresh(4, 0);
        x.withdraw(0);
        x.withdraw(3);
        bounds("1 and 2 play on alone", 2, 3);
        play("1a");
        bounds("1 has beaten 2, and 0 by a walkover", 1, 2);
    }
}
