import java.util.function.Supplier;

/** Promises 10 to 13, at their edges: a method for each sentence that names one. */
final class ForecastEdgesTest {
    private static final int MIN = Integer.MIN_VALUE, MAX = Integer.MAX_VALUE;

    private ForecastEdgesTest() {
    }

    public static void main(String[] args) {
        forecastsChangeNothing();
        forecastGoesByTheHigherRating();
        forecastGoesByTheLowerNumber();
        forecastKeepsWhatIsDecided();
        forecastLetsNobodyWinWhoHasWithdrawn();
        upsetsRefusesOtherPlayers();
        upsetsRefusesWhoHasWithdrawn();
        upsetsRefusesOtherPlacesThanTheFirst();
        upsetsCountsNoneForTheBest();
        upsetsGoesByNumbersOfTheSameRating();
        upsetsCountsBothFinals();
        upsetsCountsOnlyMatchesFromNowOn();
        upsetsCountsNoWalkovers();
        upsetsLetsTheOthersGoAsForecast();
        sessionsTakesOneToEightTables();
        sessionsRefusesOtherTables();
        sessionsIsZeroWhenItIsOver();
        sessionsTakesNoTurnForWalkovers();
        sessionsPlaysWhatCanBePlayedAtTheBeginning();
        sessionsPlaysTheLowestNumbersFirst();
        sessionsPlaysTheSecondFinalToo();
        meetRefusesOtherPlayers();
        meetRefusesTheSamePlayer();
        meetTellsNoneForWhoHasWithdrawn();
        meetTellsNoneForWhoHasAPlace();
        meetTellsTheNextMatchOfBoth();
        meetTellsTheNextMatchOfOne();
        meetTellsAMatchBehindBoth();
        meetTellsTheFinalAtTheLatest();
        meetTellsTheSecondFinal();
        Check.end();
    }

    private static void due(String call, int want, int got) {
        Check.due(call, want, got);
    }

    private static TwoLives after(int players, String acts) {
        return Check.entered(players, 0, acts);
    }

    private static Supplier<TwoLives> start(int players, String acts) {
        return () -> after(players, acts);
    }

    private static TwoLives rated(int players, int... ratings) {
        TwoLives x = after(players, "");
        for (int p = 0; p < ratings.length; p++) {
            x.rate(p, ratings[p]);
        }
        return x;
    }

    private static void forecastsChangeNothing() {
        Untouched.by("forecast()", 0, x -> x.forecast());
        Untouched.by("upsets(0)", 0, x -> x.upsets(0));
        Untouched.by("sessions(1)", 12, x -> x.sessions(1));
        Untouched.by("meet(0, 1)", 14, x -> x.meet(0, 1));
    }

    // ---- promise 10

    private static void forecastGoesByTheHigherRating() {
        for (int n = 2; n <= 16; n++) {
            for (int p = 1; p < n; p++) {
                TwoLives x = after(n, "");
                x.rate(p, 1501);
                due(p + " of " + n + ", better by one", p, x.forecast());
                x.rate(p, 1499);
                due(p + " of " + n + ", worse by one", 0, x.forecast());
            }
        }
        due("the least and the greatest rating", 1, rated(2, 0, 9999).forecast());
        due("the greatest and the least rating", 0, rated(2, 9999, 0).forecast());
    }

    private static void forecastGoesByTheLowerNumber() {
        for (int n = 2; n <= 16; n++) {
            for (int p = 1; p < n; p++) {
                TwoLives x = after(n, "");
                x.rate(p, 1500);
                due(p + " of " + n + ", the same rating as 0", 0, x.forecast());
                x.rate(0, 1499);
                due(p + " of " + n + ", better than 0 by one", p, x.forecast());
            }
        }
        due("all have the rating 0", 0, rated(4, 0, 0, 0, 0).forecast());
        due("all have the rating 9999", 0, rated(4, 9999, 9999, 9999, 9999).forecast());
        TwoLives x = after(2, "2b");
        x.rate(1, 1500);
        due("the lower number on side 1, in both finals", 0, x.forecast());
        x = after(2, "2b,5b");
        x.rate(1, 1500);
        due("the lower number on side 1, in the second final", 0, x.forecast());
    }

    private static void forecastKeepsWhatIsDecided() {
        due("a new tournament", 0, after(4, "").forecast());
        due("the best one has lost once", 0, after(4, "0b").forecast());
        due("the best one is out", 1, after(4, "0b,1a,3b").forecast());
        due("one final is left", 0, after(2, "2b,5b").forecast());
        due("over, the best one is the second", 1, after(2, "2b,5a").forecast());
        due("over after both finals", 1, after(2, "2a,5b,6b").forecast());
    }

    private static void forecastLetsNobodyWinWhoHasWithdrawn() {
        TwoLives x = after(4, "0a,w0");
        x.rate(0, 9999);
        due("who waits in the upper bracket", 1, x.forecast());
        x = after(4, "0b,w0");
        x.rate(0, 9999);
        due("who waits in the lower bracket", 1, x.forecast());
        x = after(4, "0a,1a,2a,w0");
        x.rate(0, 9999);
        due("who waits in the final", 1, x.forecast());
        due("over by walkovers", 3, after(4, "w0,w1,w2").forecast());
    }

    // ---- promise 11

    private static void upsetsRefusesOtherPlayers() {
        for (int p : new int[] {MIN, -1, 11, 15, 16, MAX}) {
            Untouched.by("upsets(" + p + ") of eleven", -1, x -> x.upsets(p));
        }
        for (int n = 2; n <= 16; n++) {
            TwoLives x = after(n, "");
            due("upsets(" + n + ") of " + n, -1, x.upsets(n));
            due("upsets(" + (n - 1) + ") of " + n + " is taken", 1, x.upsets(n - 1) >= 0 ? 1 : 0);
            due("upsets(-1) of " + n, -1, x.upsets(-1));
        }
    }

    private static void upsetsRefusesWhoHasWithdrawn() {
        Untouched.by("who waits", -5, start(8, "0a,w0"), x -> x.upsets(0));
        Untouched.by("who waits in the final", -5, start(4, "0a,1a,2a,w0"), x -> x.upsets(0));
        Untouched.by("who has a place, too", -5, start(2, "w0"), x -> x.upsets(0));
        TwoLives x = after(8, "0a,w0");
        x.undo();
        due("whose withdrawal is undone", 0, x.upsets(0));
    }

    private static void upsetsRefusesOtherPlacesThanTheFirst() {
        String over = "0a,1a,2a,3a,4b,5a";
        Untouched.by("the place 4", -5, start(4, over), x -> x.upsets(2));
        Untouched.by("the place 3", -5, start(4, over), x -> x.upsets(3));
        Untouched.by("the place 2", -5, start(4, over), x -> x.upsets(1));
        Untouched.by("the place 1", 0, start(4, over), x -> x.upsets(0));
        Untouched.by("the place 1 behind both finals", 0, start(2, "2a,5b,6b"), x -> x.upsets(1));
        Untouched.by("the place 2 behind both finals", -5, start(2, "2a,5b,6b"), x -> x.upsets(0));
        Untouched.by("the place 1 by a walkover", 0, start(2, "w0"), x -> x.upsets(1));
        Untouched.by("a shared place", -5, start(8, "0a,1a,7a"), x -> x.upsets(4));
        due("no place between the finals", 0, after(2, "2a,5b").upsets(0));
    }

    private static void upsetsCountsNoneForTheBest() {
        for (int n = 2; n <= 16; n++) {
            due("upsets(0) of " + n, 0, after(n, "").upsets(0));
        }
        due("upsets(0), who has lost once", 0, after(4, "0b").upsets(0));
        int[] due = {0, 2, 3, 3, 4, 4, 4, 4};
        TwoLives x = after(8, "");
        for (int p = 0; p < 8; p++) {
            due("upsets(" + p + ") of 8", due[p], x.upsets(p));
        }
    }

    private static void upsetsGoesByNumbersOfTheSameRating() {
        TwoLives x = rated(2, 1500, 1500);
        due("the lower number", 0, x.upsets(0));
        due("the higher number, in its first match and the final", 2, x.upsets(1));
        x.rate(1, 1501);
        due("the lower number, worse by one", 2, x.upsets(0));
        due("the higher number, better by one", 0, x.upsets(1));
        x = rated(4, 0, 0, 0, 0);
        due("upsets(3), all the same", 3, x.upsets(3));
        due("upsets(1), all the same", 2, x.upsets(1));
        due("upsets(2), all the same", 3, x.upsets(2));
    }

    private static void upsetsCountsBothFinals() {
        due("1 comes from the lower bracket", 2, after(2, "2a").upsets(1));
        due("1 comes from the upper bracket", 1, after(2, "2b").upsets(1));
        due("the second final is left", 1, after(2, "2a,5b").upsets(1));
        due("3 comes from the lower bracket", 4, after(4, "0a").upsets(3));
    }

    private static void upsetsCountsOnlyMatchesFromNowOn() {
        due("before", 3, after(4, "").upsets(3));
        due("after an upset", 2, after(4, "0b").upsets(3));
        due("after two", 1, after(4, "0b,1a,2a").upsets(3));
        due("over", 0, after(4, "0b,1a,2a,3a,4a,5a").upsets(3));
    }

    private static void upsetsCountsNoWalkovers() {
        due("0 has withdrawn from the first match", 2, after(4, "w0").upsets(3));
        due("0 has withdrawn and waits for it", 2, after(4, "0a,w0").upsets(2));
        due("0 and 1 have withdrawn", 2, after(4, "w0,w1").upsets(3));
        due("all others have withdrawn", 0, after(4, "w0,w1,w2").upsets(3));
        due("0 has withdrawn and waits in the final", 1, after(4, "0a,1a,2a,3a,w0").upsets(3));
    }

    /** 5 meets 2, then 1 or 6, then 0: the better one of 1 and 6 is there. */
    private static void upsetsLetsTheOthersGoAsForecast() {
        TwoLives x = after(8, "");
        x.rate(5, 1495);
        due("5 is worse than 0 alone", 2, x.upsets(5));
        x.rate(6, 1496);
        due("6 wins against 1", 3, x.upsets(5));
        x.rate(6, 1490);
        due("1 wins against 6, whose number is higher", 2, x.upsets(5));
    }

    // ---- promise 12

    private static void sessionsTakesOneToEightTables() {
        int[] eight = {14, 9, 7, 6, 6, 6, 6, 6};
        int[] sixteen = {30, 17, 13, 11, 10, 9, 9, 8};
        for (int tables = 1; tables <= 8; tables++) {
            due("sessions(" + tables + ") of 8", eight[tables - 1], after(8, "").sessions(tables));
            due("sessions(" + tables + ") of 16", sixteen[tables - 1], after(16, "").sessions(tables));
        }
    }

    private static void sessionsRefusesOtherTables() {
        for (int tables : new int[] {MIN, -8, -1, 0, 9, 10, MAX}) {
            Untouched.by("sessions(" + tables + ")", -2, x -> x.sessions(tables));
            due("sessions(" + tables + ") when it is over", -2, after(2, "2a,5a").sessions(tables));
        }
    }

    private static void sessionsIsZeroWhenItIsOver() {
        for (int tables = 1; tables <= 8; tables++) {
            due("over after one final", 0, after(2, "2a,5a").sessions(tables));
            due("over after both", 0, after(2, "2a,5b,6a").sessions(tables));
            due("not over after the first", 1, after(2, "2a,5b").sessions(tables));
        }
    }

    private static void sessionsTakesNoTurnForWalkovers() {
        due("all others have withdrawn", 0, after(4, "w0,w1,w2").sessions(1));
        due("0 waits in the final and has withdrawn", 1, after(4, "0a,1a,2a,3a,w0").sessions(1));
        due("0 has withdrawn and waits for others", 3, after(4, "0a,w0").sessions(1));
        due("byes take no turn", 2, after(2, "").sessions(1));
        due("nor a table", 4, after(3, "").sessions(1));
        due("with eight tables, too", 4, after(3, "").sessions(8));
    }

    private static void sessionsPlaysWhatCanBePlayedAtTheBeginning() {
        due("two matches one after the other", 2, after(2, "").sessions(8));
        due("four players, one table", 6, after(4, "").sessions(1));
        due("four players, two tables", 4, after(4, "").sessions(2));
        due("four players, eight tables", 4, after(4, "").sessions(8));
        due("the last match of a round", 4, after(4, "0a").sessions(8));
    }

    /** With 6 players and two tables, 6 and 9 are played before 10; 9 and 10 before 6 would take 6 turns. */
    private static void sessionsPlaysTheLowestNumbersFirst() {
        due("6 players, two tables", 7, after(6, "").sessions(2));
        due("9 players, two tables", 10, after(9, "").sessions(2));
        due("9 players, three tables", 8, after(9, "").sessions(3));
        due("before 6, 9 and 10", 5, after(6, "1a,3a,4a,5a").sessions(2));
        due("with a table more", 4, after(6, "1a,3a,4a,5a").sessions(3));
    }

    private static void sessionsPlaysTheSecondFinalToo() {
        due("the better one comes from the lower bracket", 2, after(2, "2b").sessions(1));
        due("with eight tables", 2, after(2, "2b").sessions(8));
        due("the better one comes from the upper bracket", 1, after(2, "2a").sessions(1));
        TwoLives x = after(2, "2b");
        x.rate(1, 1500);
        due("the same rating", 2, x.sessions(1));
        x.rate(1, 1501);
        due("the better one by one", 1, x.sessions(1));
    }

    // ---- promise 13

    private static void meetRefusesOtherPlayers() {
        for (int p : new int[] {MIN, -1, 11, 15, 16, MAX}) {
            Untouched.by("meet(" + p + ", 0)", -1, x -> x.meet(p, 0));
            Untouched.by("meet(0, " + p + ")", -1, x -> x.meet(0, p));
            Untouched.by("meet(" + p + ", " + p + ")", -1, x -> x.meet(p, p));
            Untouched.by("meet(6, " + p + "), withdrawn", -1, x -> x.meet(6, p));
            Untouched.by("meet(" + p + ", 6), withdrawn", -1, x -> x.meet(p, 6));
        }
    }

    private static void meetRefusesTheSamePlayer() {
        for (int p = 0; p < 11; p++) {
            int same = p;
            Untouched.by("meet(" + p + ", " + p + ")", -2, x -> x.meet(same, same));
        }
        due("the same, withdrawn", -2, after(8, "0a,w0").meet(0, 0));
        due("the same, with a place", -2, after(2, "2a,5a").meet(1, 1));
    }

    private static void meetTellsNoneForWhoHasWithdrawn() {
        Untouched.by("meet(0, 4), withdrawn 0", -6, start(8, "0a,w0"), x -> x.meet(0, 4));
        Untouched.by("meet(4, 0), withdrawn 0", -6, start(8, "0a,w0"), x -> x.meet(4, 0));
        due("both have withdrawn", -6, after(8, "0a,w0,w7").meet(0, 7));
        due("others have withdrawn", 1, after(8, "0a,w0,w7").meet(3, 4));
    }

    private static void meetTellsNoneForWhoHasAPlace() {
        due("meet(4, 0), 4 is out", -6, after(8, "0a,1a,7a").meet(4, 0));
        due("meet(0, 4), 4 is out", -6, after(8, "0a,1a,7a").meet(0, 4));
        due("the champion and the second", -6, after(2, "2a,5a").meet(0, 1));
        due("the second and the champion", -6, after(2, "2a,5b,6a").meet(1, 0));
    }

    private static void meetTellsTheNextMatchOfBoth() {
        TwoLives x = after(8, "");
        int[][] first = {{0, 7}, {3, 4}, {1, 6}, {2, 5}};
        for (int m = 0; m < 4; m++) {
            due("meet of match " + m, m, x.meet(first[m][0], first[m][1]));
            due("the other way", m, x.meet(first[m][1], first[m][0]));
        }
        due("of the lower bracket", 7, after(8, "0a,1a").meet(4, 7));
    }

    private static void meetTellsTheNextMatchOfOne() {
        TwoLives x = after(8, "0a,1a,4a");
        due("3 waits for who wins match 7", 9, x.meet(3, 7));
        due("the other way", 9, x.meet(7, 3));
        due("0 waits for who wins match 5", 6, after(8, "0a,1a,4a").meet(0, 2));
        due("0 waits in the final", 5, after(4, "0a,1a,2a").meet(2, 0));
    }

    private static void meetTellsAMatchBehindBoth() {
        TwoLives x = after(8, "");
        due("in the second round", 4, x.meet(0, 3));
        due("in the third round", 6, x.meet(7, 5));
        x = after(16, "");
        due("of sixteen, in the fourth round", 14, x.meet(0, 10));
        due("of sixteen, in the third round", 12, x.meet(11, 15));
        x = after(8, "0a,1a,2a,3a");
        due("in the lower bracket", 11, x.meet(7, 5));
        due("by the ways of winners, the final", 13, x.meet(7, 0));
    }

    private static void meetTellsTheFinalAtTheLatest() {
        int[] last = {5, 13, 29};
        int[] players = {4, 8, 16};
        for (int i = 0; i < last.length; i++) {
            TwoLives x = after(players[i], "0b");
            due("upper and lower bracket of " + players[i], last[i], x.meet(0, 1));
            due("the other way", last[i], x.meet(1, 0));
        }
        due("both are in the final", 5, after(4, "0a,1a,2a,3a,4a").meet(0, 3));
    }

    private static void meetTellsTheSecondFinal() {
        due("both are in the second final", 6, after(4, "0a,1a,2a,3a,4a,5b").meet(0, 3));
        due("the other way", 6, after(2, "2a,5b").meet(1, 0));
    }
}
