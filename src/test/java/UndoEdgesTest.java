import java.util.Arrays;
import java.util.function.Supplier;

/** Promises 18 to 20, at their edges: a method for each sentence that names one. */
final class UndoEdgesTest {
    private static final int MIN = Integer.MIN_VALUE, MAX = Integer.MAX_VALUE;

    private UndoEdgesTest() {
    }

    public static void main(String[] args) {
        undoRefusesWhenThereIsNone();
        undoUndoesTheLatestActAlone();
        undoUndoesEveryAct();
        undoOfAResultLetsItBePlayedAgain();
        undoOfAWithdrawalTakesBackWhatFollowed();
        undoOfTheFinals();
        undoLeavesOutWhatIsNoAct();
        undoLeavesOutActsThatFailed();
        undoKeepsRatings();
        undoTakesTheActsThatWereSaved();
        saveTakesTwoSlots();
        saveRefusesOtherSlots();
        saveChangesNothing();
        saveOverwrites();
        saveSavesATournamentWithoutResults();
        saveSavesATournamentThatIsOver();
        restoreRefusesOtherSlots();
        restoreRefusesASlotInWhichNothingWasSaved();
        restoreBringsBackTheTournament();
        restoreBringsBackRatings();
        restoreKeepsTheSlot();
        restoreKeepsThePad();
        restoreIsNoAct();
        Check.end();
    }

    private static void due(String call, int want, int got) {
        Check.due(call, want, got);
    }

    private static TwoLives after(int players, String acts) {
        return Check.entered(players, 0, acts);
    }

    private static Supplier<TwoLives> start(int players, String acts) {
        return () -> after(players, acts);
    }

    private static void same(String what, TwoLives one, TwoLives other) {
        due(what, 1, Check.told(one).equals(Check.told(other)) ? 1 : 0);
    }

    // ---- promise 18

    private static void undoRefusesWhenThereIsNone() {
        Untouched.by("undo() of a new object", -5, TwoLives::new, x -> x.undo());
        Untouched.by("undo() behind setUp()", -5, start(16, ""), x -> x.undo());
        Untouched.by("undo() when all is undone", -5, () -> undone(after(8, "0a"), 1), x -> x.undo());
    }

    private static TwoLives undone(TwoLives x, int times) {
        for (int i = 0; i < times; i++) {
            x.undo();
        }
        return x;
    }

    private static void undoUndoesTheLatestActAlone() {
        String[] acts = {"0b", "w3", "3b", "4b", "w6", "5a", "9a"};
        TwoLives x = after(8, String.join(",", acts));
        for (int left = acts.length - 1; left >= 0; left--) {
            due("undo()", left, x.undo());
            due("acts", left, x.count(13));
            String before = String.join(",", Arrays.copyOf(acts, left));
            TwoLives undone = undone(after(8, String.join(",", acts)), acts.length - left);
            same("as if " + before + " were all", after(8, before), undone);
        }
        due("undo() once more", -5, x.undo());
    }

    private static void undoUndoesEveryAct() {
        TwoLives x = after(16, "");
        for (int m = 0; m < 31; m++) {
            x.result(m, m == 29 ? 1 : 0);
        }
        due("over", 16, x.count(9));
        for (int left = 30; left >= 0; left--) {
            due("undo() of " + left, left, x.undo());
            due("results", left, x.count(4));
        }
        due("nothing is left", -5, x.undo());
        same("a new tournament", after(16, ""), x);
    }

    private static void undoOfAResultLetsItBePlayedAgain() {
        TwoLives x = after(8, "0a");
        due("undo()", 0, x.undo());
        due("match 0", 0, x.match(0, 4));
        due("its winner", -6, x.match(0, 2));
        due("match 4 has no side 0", -6, x.match(4, 0));
        due("match 7 has no side 0", -6, x.match(7, 0));
        due("result(0, 1) then", 7, x.result(0, 1));
        due("acts", 1, x.count(13));
    }

    private static void undoOfAWithdrawalTakesBackWhatFollowed() {
        TwoLives x = after(5, "w3");
        due("walkover", 1, x.count(5));
        due("byes", 5, x.count(6));
        due("undo()", 0, x.undo());
        same("a new tournament", after(5, ""), x);
        due("withdraw(3) again", 2, x.withdraw(3));
        x = after(8, "w3,w4");
        due("both have withdrawn", 3, x.match(1, 2));
        x.undo();
        due("only 3 has", 4, x.match(1, 2));
        x.undo();
        due("nobody has", -6, x.match(1, 2));
    }

    private static void undoOfTheFinals() {
        TwoLives x = after(2, "2a,5b,6b");
        x.undo();
        due("no champion", -6, x.count(8));
        due("the second final has players", 0, x.match(6, 0));
        x.undo();
        due("the second final has none", -6, x.match(6, 0));
        due("result(5, 0) then", 0, x.result(5, 0));
        due("champion", 0, x.count(8));
        x.undo();
        due("not any more", -6, x.count(8));
        due("no place any more", -6, x.player(0, 6));
    }

    private static void undoLeavesOutWhatIsNoAct() {
        TwoLives x = after(8, "0a,1a");
        x.rate(0, 7);
        x.save(0);
        x.put(Check.packed("2a"));
        x.wipe();
        x.forecast();
        due("acts", 2, x.count(13));
        due("undo()", 1, x.undo());
        due("it was 1a", 0, x.match(1, 4));
    }

    private static void undoLeavesOutActsThatFailed() {
        TwoLives x = after(8, "0a,w7");
        due("result(0, 0), decided", -5, x.result(0, 0));
        due("result(15, 0)", -1, x.result(15, 0));
        due("result(1, 2)", -2, x.result(1, 2));
        due("withdraw(7) again", -5, x.withdraw(7));
        due("withdraw(8)", -1, x.withdraw(8));
        Check.putAll(x, "0b,1a");
        due("carryOut() that fails", 0, x.carryOut());
        due("undo()", 1, x.undo());
        due("it was w7", 0, x.player(7, 3));
        due("0a stands", 0, x.match(0, 2));
    }

    private static void undoKeepsRatings() {
        TwoLives x = after(8, "0a");
        x.rate(7, 9999);
        Check.enter(x, "1a");
        x.rate(0, 0);
        undone(x, 2);
        due("rating of 7", 9999, x.player(7, 0));
        due("rating of 0", 0, x.player(0, 0));
        due("forecast()", 7, x.forecast());
    }

    private static void undoTakesTheActsThatWereSaved() {
        TwoLives x = after(8, "0a,w3");
        x.save(0);
        Check.enter(x, "2b,3b,5a");
        x.restore(0);
        due("acts", 2, x.count(13));
        due("undo() of w3", 1, x.undo());
        due("3 has not withdrawn", 0, x.player(3, 3));
        due("undo() of 0a", 0, x.undo());
        due("undo() of nothing", -5, x.undo());
        x.restore(0);
        Check.enter(x, "2a");
        due("undo() of 2a", 2, x.undo());
        x.setUp(8, 0);
        x.save(1);
        x.restore(0);
        x.restore(1);
        due("a slot without acts", -5, x.undo());
    }

    // ---- promise 19

    private static void saveTakesTwoSlots() {
        TwoLives x = after(8, "0a");
        due("save(0)", 1, x.save(0));
        Check.enter(x, "w3,2b");
        due("save(1)", 2, x.save(1));
        Check.enter(x, "3b");
        due("restore(0)", 1, x.restore(0));
        same("the first", after(8, "0a"), x);
        due("restore(1)", 2, x.restore(1));
        due("withdrawn", 1, x.player(3, 3));
        due("winner of match 2", 6, x.match(2, 2));
        due("match 3 is not decided", 0, x.match(3, 4));
    }

    private static void saveRefusesOtherSlots() {
        for (int slot : new int[] {MIN, -6, -1, 2, 3, MAX}) {
            Untouched.by("save(" + slot + ")", -2, x -> x.save(slot));
        }
    }

    private static void saveChangesNothing() {
        for (int slot = 0; slot <= 1; slot++) {
            int s = slot;
            Untouched.by("save(" + slot + ") again", 4, () -> saved(Untouched.full(), s), x -> x.save(s));
        }
        TwoLives x = saved(Untouched.full(), 0);
        same("save() changes nothing but the slot", Untouched.full(), x);
        due("slot 1 stays", 3, x.restore(1));
    }

    private static TwoLives saved(TwoLives x, int slot) {
        x.save(slot);
        return x;
    }

    private static void saveOverwrites() {
        TwoLives x = after(16, "0a,1a,w2");
        x.save(0);
        x.setUp(5, 1);
        due("save(0) again", 0, x.save(0));
        x.setUp(8, 0);
        due("restore(0)", 0, x.restore(0));
        due("players", 5, x.count(0));
        due("CROSS", 1, x.count(3));
        due("acts", 0, x.count(13));
        due("nobody has withdrawn", 0, x.player(2, 3));
    }

    private static void saveSavesATournamentWithoutResults() {
        TwoLives x = new TwoLives();
        due("save(1) of a new object", 0, x.save(1));
        Check.enter(x, "0a,w3");
        x.rate(0, 1);
        due("restore(1)", 0, x.restore(1));
        same("a new object", new TwoLives(), x);
        due("walkovers and byes are no results", 0, after(5, "w3").save(0));
    }

    private static void saveSavesATournamentThatIsOver() {
        TwoLives x = after(16, "");
        for (int m = 0; m < 31; m++) {
            x.result(m, m == 29 ? 1 : 0);
        }
        due("save(0)", 31, x.save(0));
        x.setUp(2, 0);
        due("restore(0)", 31, x.restore(0));
        due("all have a place", 16, x.count(9));
        due("acts", 31, x.count(13));
        due("undo()", 30, x.undo());
    }

    // ---- promise 20

    private static void restoreRefusesOtherSlots() {
        for (int slot : new int[] {MIN, -6, -1, 2, 3, MAX}) {
            Untouched.by("restore(" + slot + ")", -2, x -> x.restore(slot));
            due("restore(" + slot + ") of a new object", -2, new TwoLives().restore(slot));
        }
    }

    private static void restoreRefusesASlotInWhichNothingWasSaved() {
        for (int slot = 0; slot <= 1; slot++) {
            int s = slot;
            Untouched.by("restore(" + slot + ")", -5, start(11, "1b,w6"), x -> x.restore(s));
            Untouched.by("restore(" + slot + "), saved in the other", -5,
                    () -> saved(after(11, "1b,w6"), 1 - s), x -> x.restore(s));
        }
    }

    private static void restoreBringsBackTheTournament() {
        for (int n = 2; n <= 16; n++) {
            TwoLives x = begun(n);
            int results = x.save(n % 2);
            x.setUp(18 - n, 1 - n % 2);
            x.withdraw(1);
            due("restore of " + n, results, x.restore(n % 2));
            same("what was saved of " + n, begun(n), x);
        }
    }

    private static TwoLives begun(int players) {
        TwoLives x = Check.entered(players, players % 2, "");
        x.result(x.open(0), 1);
        x.withdraw(0);
        return x;
    }

    private static void restoreBringsBackRatings() {
        TwoLives x = after(16, "");
        x.rate(0, 0);
        x.rate(15, 9999);
        x.save(0);
        x.setUp(2, 0);
        x.rate(1, 77);
        x.restore(0);
        due("the first player's rating", 0, x.player(0, 0));
        due("the second one's", 1490, x.player(1, 0));
        due("the last one's", 9999, x.player(15, 0));
        due("forecast()", 15, x.forecast());
    }

    private static void restoreKeepsTheSlot() {
        TwoLives x = after(8, "0a,w3");
        x.save(1);
        for (int time = 1; time <= 3; time++) {
            Check.enter(x, "2a");
            x.rate(0, 5);
            undone(x, 3);
            due("restore(1), time " + time, 1, x.restore(1));
        }
        x.setUp(2, 1);
        due("restore(1) behind setUp()", 1, x.restore(1));
        same("what was saved", after(8, "0a,w3"), x);
    }

    private static void restoreKeepsThePad() {
        TwoLives x = Check.putAll(new TwoLives(), "0a");
        x.save(0);
        x.wipe();
        Check.putAll(x, "1b,w2");
        x.restore(0);
        due("length of the pad", 5, x.count(12));
        due("carryOut()", 2, x.carryOut());
        due("1b", 4, x.match(1, 2));
        x.restore(0);
        due("an empty pad stays empty", 0, x.count(12));
    }

    private static void restoreIsNoAct() {
        TwoLives x = after(8, "0a");
        x.save(0);
        for (int i = 0; i < 3; i++) {
            x.restore(0);
            due("acts", 1, x.count(13));
        }
        due("undo()", 0, x.undo());
    }
}
