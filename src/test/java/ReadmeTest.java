/** The calls that README.md shows, with the answers that it tells. */
final class ReadmeTest {
    private ReadmeTest() {
    }

    public static void main(String[] args) {
        TwoLives cup = new TwoLives();
        Check.due("setUp", 15, cup.setUp(5, 1));
        Check.due("result", 3, cup.result(1, 0));
        Check.due("withdraw", 2, cup.withdraw(2));
        Check.due("open", 4, cup.open(0));
        Check.due("match", 3, cup.match(4, 1));
        Check.due("player", 11, cup.player(4, 5));
        Check.due("count", TwoLives.NONE, cup.count(8));
        Check.due("forecast", 0, cup.forecast());
        Check.due("upsets", 3, cup.upsets(3));
        Check.due("sessions", 4, cup.sessions(2));
        Check.due("meet", 13, cup.meet(0, 4));
        Check.due("put", 5, cup.put(0x34622C7733L));
        Check.due("fault", TwoLives.NONE, cup.fault());
        Check.due("carryOut", 2, cup.carryOut());
        Check.due("save", 2, cup.save(0));
        Check.due("undo", 3, cup.undo());
        Check.due("restore", 2, cup.restore(0));
        Check.end();
    }
}
