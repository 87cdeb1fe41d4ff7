/** Promises 10 to 13: forecasts, upsets, turns, and where players meet. */
final class ForecastTest {
    private static TwoLives x;

    private ForecastTest() {
    }

    public static void main(String[] args) {
        forecast();
        upsets();
        sessions();
        meet();
        nothingChanges();
        Check.end();
    }

    private static void due(String call, int want, int got) {
        Check.due(call, want, got);
    }

    private static void fresh(int players, int cross) {
        x = new TwoLives();
        x.setUp(players, cross);
    }

    private static void play(String acts) {
        Check.play(x, acts);
    }

    private static void forecast() {
        for (int n = 2; n <= 16; n++) {
            fresh(n, n % 2);
            due("the best seed of " + n, 0, x.forecast());
            x.rate(n - 1, 1501);
            due("the best rating of " + n, n - 1, x.forecast());
            x.rate(n - 1, 1500);
            due("the lower number of the same rating", 0, x.forecast());
        }
        fresh(4, 0);
        play("0b,w0");
        due("who has withdrawn does not win", 1, x.forecast());
        play("1a,2a");
        due("the better one wins both finals", 1, x.forecast());
        play("4b,5a");
        due("over", 3, x.forecast());
        fresh(4, 0);
        play("0b,1a");
        due("0 comes back by the lower bracket", 0, x.forecast());
        play("3b");
        due("out of the lower bracket is out", 1, x.forecast());
    }

    private static void upsets() {
        fresh(8, 0);
        due("upsets(0)", 0, x.upsets(0));
        due("upsets(1)", 2, x.upsets(1));
        due("upsets(7)", 4, x.upsets(7));
        due("upsets(8)", -1, x.upsets(8));
        due("upsets(-1)", -1, x.upsets(-1));
        x.rate(7, 1500);
        due("the same rating as 0, the higher number", 2, x.upsets(7));
        x.rate(7, 1501);
        due("the higher rating", 0, x.upsets(7));
        fresh(8, 0);
        x.withdraw(0);
        due("a walkover is no upset", 3, x.upsets(7));
        due("upsets(0), withdrawn", -5, x.upsets(0));
        fresh(4, 0);
        play("0a,1a");
        due("both finals", 4, x.upsets(3));
        play("3b,2a,4b");
        due("out", -5, x.upsets(3));
        play("5a");
        due("the second", -5, x.upsets(1));
        due("the champion", 0, x.upsets(0));
        x.undo();
        play("5b");
        due("one final is left", 1, x.upsets(1));
    }

    private static void sessions() {
        fresh(8, 0);
        due("sessions(1)", 14, x.sessions(1));
        due("sessions(2)", 9, x.sessions(2));
        due("sessions(4)", 6, x.sessions(4));
        due("sessions(8)", 6, x.sessions(8));
        due("sessions(0)", -2, x.sessions(0));
        due("sessions(9)", -2, x.sessions(9));
        due("sessions(-1)", -2, x.sessions(-1));
        fresh(16, 0);
        due("16: sessions(1)", 30, x.sessions(1));
        due("16: sessions(8)", 8, x.sessions(8));
        fresh(2, 0);
        due("2: sessions(8)", 2, x.sessions(8));
        play("2b");
        due("2: the second final, too", 2, x.sessions(3));
        play("5a");
        due("over", 0, x.sessions(1));
        fresh(4, 0);
        play("w0,w3,w2");
        due("all by walkovers", 0, x.sessions(1));
        fresh(4, 0);
        x.withdraw(0);
        due("4 without 0", 4, x.sessions(1));
        due("4 without 0, with 2 tables", 4, x.sessions(2));
    }

    private static void meet() {
        fresh(8, 0);
        due("meet(0, 7)", 0, x.meet(0, 7));
        due("meet(3, 0)", 4, x.meet(3, 0));
        due("meet(0, 2)", 6, x.meet(0, 2));
        due("meet(0, 8)", -1, x.meet(0, 8));
        due("meet(-1, 0)", -1, x.meet(-1, 0));
        due("meet(8, 8)", -1, x.meet(8, 8));
        due("meet(3, 3)", -2, x.meet(3, 3));
        play("0a,1a,2a");
        due("both in a match of the lower bracket", 7, x.meet(7, 4));
        due("upper and lower bracket", 13, x.meet(0, 7));
        due("lower bracket", 11, x.meet(6, 4));
        due("one waits in the next match of the other", 5, x.meet(1, 2));
        play("7a");
        due("out", -6, x.meet(4, 0));
        due("out, the other way", -6, x.meet(0, 4));
        due("out, both the same", -2, x.meet(4, 4));
        play("4b,w3");
        due("one has withdrawn", -6, x.meet(3, 1));
        due("the other has withdrawn", -6, x.meet(1, 3));
        fresh(4, 0);
        play("0a,1a,2a,3a,4b");
        due("the final", 5, x.meet(0, 1));
        play("5b");
        due("the second final", 6, x.meet(1, 0));
        play("6b");
        due("over", -6, x.meet(1, 0));
    }

    private static void nothingChanges() {
        fresh(11, 1);
        play("1a,5b,w5,8a");
        String before = Check.told(x);
        fresh(11, 1);
        play("1a,5b,w5,8a");
        x.forecast();
        x.upsets(8);
        x.sessions(3);
        x.meet(0, 1);
        due("a forecast changes nothing", 1, before.equals(Check.told(x)) ? 1 : 0);
    }
}
