/** Promises 18 to 20: undo, save and restore. */
final class UndoTest {
    private static TwoLives x;

    private UndoTest() {
    }

    public static void main(String[] args) {
        undo();
        undoOfEverything();
        save();
        restore();
        actsOfTheSlot();
        Check.end();
    }

    private static void due(String call, int want, int got) {
        Check.due(call, want, got);
    }

    private static void play(String acts) {
        Check.play(x, acts);
    }

    private static void undo() {
        x = new TwoLives();
        due("nothing to undo", -5, x.undo());
        play("0a,w4,4a");
        x.rate(2, 7);
        due("an act that fails is none", -5, x.result(0, 0));
        due("undo()", 2, x.undo());
        due("match 4 can be played", 0, x.match(4, 4));
        due("its players stay", 3, x.match(4, 1));
        due("ratings stay", 7, x.player(2, 0));
        due("undo() again", 1, x.undo());
        due("4 is back", 0, x.player(4, 3));
        due("match 1 can be played", 0, x.match(1, 4));
        due("match 4 has lost a side", -6, x.match(4, 1));
        due("undo() of the first", 0, x.undo());
        due("no more", -5, x.undo());
        due("a new tournament", 4, x.count(7));
        due("0 can go on", 7, x.result(0, 1));
    }

    /** A tournament of 16 with as many acts as there can be: 31 results, or withdrawals among them. */
    private static void undoOfEverything() {
        x = new TwoLives();
        x.setUp(16, 1);
        int acts = 0;
        for (int m = x.open(0); m >= 0; m = x.open(0)) {
            x.result(m, m == 29 ? 1 : m % 2);
            acts++;
        }
        due("31 results", 31, acts);
        due("acts", 31, x.count(13));
        while (acts > 0) {
            acts--;
            due("undo()", acts, x.undo());
            due("results", acts, x.count(4));
        }
        for (int p = 0; p < 16; p++) {
            x.withdraw(p);
        }
        acts = x.count(13);
        due("somebody is left", 15, x.count(8));
        for (int i = 0; i < 5; i++) {
            due("undo() of a withdrawal", acts - 1 - i, x.undo());
        }
        due("nobody is champion", -6, x.count(8));
    }

    private static void save() {
        x = new TwoLives();
        due("save(-1)", -2, x.save(-1));
        due("save(2)", -2, x.save(2));
        due("save(0)", 0, x.save(0));
        play("0a,w1");
        due("save(1)", 1, x.save(1));
        due("save(0), which overwrites", 1, x.save(0));
        x.undo();
        x.undo();
        due("restore(0)", 1, x.restore(0));
        due("acts", 2, x.count(13));
    }

    private static void restore() {
        x = new TwoLives();
        due("restore(-1)", -2, x.restore(-1));
        due("restore(2)", -2, x.restore(2));
        due("restore(1)", -5, x.restore(1));
        x.setUp(5, 1);
        x.rate(3, 77);
        play("1b,w0");
        due("save(1)", 1, x.save(1));
        due("restore(0)", -5, x.restore(0));
        x.setUp(16, 0);
        x.rate(3, 88);
        play("7a,w6,4b");
        Check.putAll(x, "w1,w2");
        due("restore(1)", 1, x.restore(1));
        int[] due = {5, 8, 15, 1, 1};
        for (int what = 0; what < due.length; what++) {
            due("count(" + what + ")", due[what], x.count(what));
        }
        due("rating", 77, x.player(3, 0));
        due("no player 5", -1, x.player(5, 0));
        due("withdrawn", 1, x.player(0, 3));
        due("cross", 10, x.match(4, 9));
        due("winner of match 1", 4, x.match(1, 2));
        due("match 3 is a bye's", 1, x.match(3, 4));
        due("the pad is not restored", 5, x.count(12));
    }

    private static void actsOfTheSlot() {
        x = new TwoLives();
        play("0a,1a");
        x.save(0);
        x.rate(0, 1);
        play("4b,2b");
        due("restore(0)", 2, x.restore(0));
        due("acts", 2, x.count(13));
        due("rating", 1500, x.player(0, 0));
        due("undo()", 1, x.undo());
        due("the slot keeps it", 2, x.restore(0));
        play("4a");
        due("and again", 2, x.restore(0));
        due("acts then", 2, x.count(13));
        x.undo();
        x.undo();
        due("all is undone", -5, x.undo());
        x.setUp(4, 0);
        due("saved before setUp()", 2, x.restore(0));
    }
}
