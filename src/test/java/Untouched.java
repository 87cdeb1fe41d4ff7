import java.util.List;
import java.util.function.Function;
import java.util.function.Supplier;
import java.util.function.ToIntFunction;

/**
 * Looks whether a call changes nothing: an object that had the call and one that had not are asked for everything,
 * and what they do later is the same, too. Every look begins with new objects, so none is used for too many calls.
 */
final class Untouched {
    private static final List<Function<TwoLives, String>> LOOKS = List.of(
            Untouched::players, Untouched::courseOfMatches, Untouched::waysOfMatches, Untouched::forecasts,
            Untouched::meetings, Untouched::padCarriedOut, Untouched::padGoneOnWith, Untouched::allUndone,
            x -> restored(x, 0), x -> restored(x, 1));

    private Untouched() {
    }

    /** A tournament in which something stands everywhere: ratings, results, withdrawals, acts, the pad, both slots. */
    static TwoLives full() {
        TwoLives x = Check.entered(6, 0, "1a,3b,w0");
        x.rate(5, 1600);
        x.save(0);
        x.setUp(11, 1);
        x.rate(3, 0);
        x.rate(10, 9999);
        Check.enter(x, "1b,9a,w6,7b");
        x.save(1);
        x.rate(4, 1234);
        Check.enter(x, "8a,w10");
        x.put(Check.packed("10a,w2"));
        return x;
    }

    /** A call that answers what is due, and changes nothing. */
    static void by(String call, int want, Supplier<TwoLives> start, ToIntFunction<TwoLives> ask) {
        Check.due(call, want, ask.applyAsInt(start.get()));
        for (Function<TwoLives, String> look : LOOKS) {
            TwoLives asked = start.get();
            ask.applyAsInt(asked);
            boolean same = look.apply(start.get()).equals(look.apply(asked));
            Check.due(call + " changes nothing", 1, same ? 1 : 0);
        }
    }

    /** The same, where the object is the full one. */
    static void by(String call, int want, ToIntFunction<TwoLives> ask) {
        by(call, want, Untouched::full, ask);
    }

    private static String counts(TwoLives x) {
        StringBuilder told = new StringBuilder();
        for (int what = 0; what < 14; what++) {
            told.append(x.count(what)).append(' ');
        }
        return told.append(x.fault()).append(' ').toString();
    }

    private static String players(TwoLives x) {
        StringBuilder told = new StringBuilder(counts(x));
        int many = x.count(0);
        for (int p = 0; p < many; p++) {
            for (int what = 0; what < 9; what++) {
                told.append(x.player(p, what)).append(' ');
            }
        }
        return told.toString();
    }

    private static String matches(TwoLives x, int first, int last) {
        StringBuilder told = new StringBuilder();
        int many = x.count(2);
        for (int m = 0; m < many; m++) {
            for (int what = first; what <= last; what++) {
                told.append(x.match(m, what)).append(' ');
            }
        }
        return told.toString();
    }

    private static String courseOfMatches(TwoLives x) {
        return matches(x, 0, 4);
    }

    private static String waysOfMatches(TwoLives x) {
        return matches(x, 5, 11);
    }

    private static String forecasts(TwoLives x) {
        StringBuilder told = new StringBuilder().append(x.forecast()).append(' ');
        for (int i = 0; i < 16; i++) {
            told.append(x.open(i)).append(' ').append(x.upsets(i)).append(' ').append(x.sessions(i)).append(' ');
        }
        return told.toString();
    }

    private static String meetings(TwoLives x) {
        StringBuilder told = new StringBuilder();
        for (int one = 0; one < 16; one++) {
            for (int other = 0; other < 16; other++) {
                told.append(x.meet(one, other)).append(' ');
            }
        }
        return told.toString();
    }

    private static String padCarriedOut(TwoLives x) {
        StringBuilder told = new StringBuilder().append(x.carryOut()).append(' ');
        return told.append(counts(x)).append(courseOfMatches(x)).toString();
    }

    private static String padGoneOnWith(TwoLives x) {
        StringBuilder told = new StringBuilder().append(x.put(Check.packed(",0a"))).append(' ');
        return told.append(x.fault()).append(' ').append(x.carryOut()).append(' ').append(counts(x)).toString();
    }

    private static String allUndone(TwoLives x) {
        StringBuilder told = new StringBuilder();
        for (int left = x.count(13); left >= 0; left--) {
            told.append(x.undo()).append(' ').append(x.count(4)).append(' ').append(x.count(5)).append(' ');
            told.append(x.open(0)).append(' ').append(x.count(8)).append(' ');
        }
        return told.append(counts(x)).toString();
    }

    private static String restored(TwoLives x, int slot) {
        StringBuilder told = new StringBuilder().append(x.restore(slot)).append(' ').append(counts(x));
        for (int p = 0; p < 16; p++) {
            told.append(x.player(p, 0)).append(' ');
        }
        return told.append(courseOfMatches(x)).append(allUndone(x)).toString();
    }
}
