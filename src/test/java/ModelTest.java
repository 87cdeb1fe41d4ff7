import java.util.ArrayList;
import java.util.List;
import java.util.Random;
import java.util.function.ToIntFunction;

/**
 * Random runs of calls on TwoLives and on the model of the document: all answers have to be the same.
 * Nothing is promised of an object after 512 calls: so a run ends before, and everything is asked of copies,
 * new objects that have had the same changes, each of them a part.
 */
final class ModelTest {
    private static final int RUNS = 500;
    private static final int CALLS = 500;
    private static final int CHANGES = 180;
    private static final int[] ODD = {-1, -6, Integer.MIN_VALUE, Integer.MAX_VALUE, 31, 16, 17, 12, 14, 9, 2, -7};

    private final Random random;
    private final Model model = new Model();
    private final List<ToIntFunction<TwoLives>> changes = new ArrayList<>();
    private TwoLives real = new TwoLives();
    private int calls = 0;
    private final String run;
    private final int withdrawals;

    private ModelTest(int seed) {
        random = new Random(seed);
        run = "run " + seed + ": ";
        withdrawals = random.nextInt(4);
    }

    public static void main(String[] args) {
        for (int seed = 0; seed < RUNS && !Check.failed(); seed++) {
            new ModelTest(seed).play();
        }
        Check.end();
    }

    private void play() {
        while (calls < CALLS && changes.size() < CHANGES && !Check.failed()) {
            if (random.nextInt(60) == 0) {
                everything();
            } else if (random.nextInt(3) == 0) {
                look();
            } else {
                change();
            }
        }
    }

    private int number(int bound) {
        return random.nextInt(25) == 0 ? ODD[random.nextInt(ODD.length)] : random.nextInt(bound);
    }

    private int someMatch() {
        int opens = model.count(7);
        return opens > 0 && random.nextInt(5) > 0 ? model.open(random.nextInt(opens)) : number(model.count(2));
    }

    private int somePlayer() {
        return number(model.count(0));
    }

    private void same(String call, int want, int got) {
        calls++;
        Check.due(run + call, want, got);
    }

    private void changed(String call, int want, ToIntFunction<TwoLives> change) {
        changes.add(change);
        same(call, want, change.applyAsInt(real));
    }

    private TwoLives copy() {
        TwoLives copy = new TwoLives();
        for (ToIntFunction<TwoLives> change : changes) {
            change.applyAsInt(copy);
        }
        return copy;
    }

    private void change() {
        switch (random.nextInt(22)) {
            case 0:
                int players = number(15) + 2;
                int cross = number(2);
                if (random.nextInt(3) == 0) {
                    changed("setUp(" + players + ", " + cross + ")", model.setUp(players, cross), x -> x.setUp(players, cross));
                }
                break;
            case 1:
                int rated = somePlayer();
                int rating = random.nextInt(8) == 0 ? random.nextInt(12000) - 1000 : 1400 + 10 * random.nextInt(12);
                changed("rate(" + rated + ", " + rating + ")", model.rate(rated, rating), x -> x.rate(rated, rating));
                break;
            case 2:
            case 3:
                if (random.nextInt(4) < withdrawals) {
                    withdraw(somePlayer());
                }
                break;
            case 4:
            case 5:
                text();
                break;
            case 6:
                changed("undo()", model.undo(), x -> x.undo());
                break;
            case 7:
                int slot = number(2);
                changed("save(" + slot + ")", model.save(slot), x -> x.save(slot));
                break;
            case 8:
                int source = number(2);
                if (random.nextInt(3) == 0) {
                    changed("restore(" + source + ")", model.restore(source), x -> x.restore(source));
                }
                break;
            default:
                int match = someMatch();
                int side = number(2);
                changed("result(" + match + ", " + side + ")", model.result(match, side), x -> x.result(match, side));
                break;
        }
    }

    /** A withdrawal may change who stands in a match that is decided, but not that it is decided. */
    private void withdraw(int player) {
        boolean[] decided = new boolean[model.count(2)];
        for (int m = 0; m < decided.length; m++) {
            decided[m] = model.match(m, 4) > 0;
        }
        changed("withdraw(" + player + ")", model.withdraw(player), x -> x.withdraw(player));
        for (int m = 0; m < decided.length; m++) {
            Check.due(run + "match(" + m + ", 4), decided still", 1, !decided[m] || model.match(m, 4) > 0 ? 1 : 0);
        }
    }

    private void text() {
        if (random.nextInt(6) == 0) {
            changed("wipe()", model.wipe(), x -> x.wipe());
        }
        long signs = random.nextInt(4) == 0 ? Check.packed(signs()) : Check.packed(act());
        long characters = random.nextInt(10) == 0 ? signs ^ 1L << random.nextInt(64) : signs;
        changed("put(" + characters + "L)", model.put(characters), x -> x.put(characters));
        same("fault()", model.fault(), real.fault());
        if (random.nextBoolean()) {
            changed("carryOut()", model.carryOut(), x -> x.carryOut());
        }
    }

    private String act() {
        String comma = model.count(12) > 0 ? "," : "";
        if (random.nextInt(4) == 0) {
            return comma + "w" + random.nextInt(18);
        }
        int match = random.nextInt(8) == 0 ? random.nextInt(34) : Math.max(0, someMatch());
        return comma + match % 1000 + (random.nextBoolean() ? "a" : "b");
    }

    private String signs() {
        String signs = "0123456789abw,AW/:!~";
        StringBuilder text = new StringBuilder();
        for (int i = random.nextInt(9); i > 0; i--) {
            text.append(signs.charAt(random.nextInt(signs.length())));
        }
        return text.toString();
    }

    private void look() {
        switch (random.nextInt(8)) {
            case 0:
                match(number(model.count(2)), number(12));
                break;
            case 1:
                player(somePlayer(), number(9));
                break;
            case 2:
                open(number(9));
                break;
            case 3:
                count(number(14));
                break;
            case 4:
                same("forecast()", model.forecast(), real.forecast());
                break;
            case 5:
                upsets(somePlayer());
                break;
            case 6:
                sessions(number(8) + 1);
                break;
            default:
                meet(somePlayer(), somePlayer());
                break;
        }
    }

    private void match(int match, int what) {
        same("match(" + match + ", " + what + ")", model.match(match, what), real.match(match, what));
    }

    private void player(int player, int what) {
        same("player(" + player + ", " + what + ")", model.player(player, what), real.player(player, what));
    }

    private void open(int index) {
        same("open(" + index + ")", model.open(index), real.open(index));
    }

    private void count(int what) {
        same("count(" + what + ")", model.count(what), real.count(what));
    }

    private void upsets(int player) {
        same("upsets(" + player + ")", model.upsets(player), real.upsets(player));
    }

    private void sessions(int tables) {
        same("sessions(" + tables + ")", model.sessions(tables), real.sessions(tables));
    }

    private void meet(int one, int other) {
        same("meet(" + one + ", " + other + ")", model.meet(one, other), real.meet(one, other));
    }

    /** What the document asks of each match as things stand, whatever was done before. */
    private void decidedAsThingsStand() {
        for (int m = 0; m < real.count(2); m++) {
            int one = real.match(m, 0), other = real.match(m, 1), how = real.match(m, 4);
            String name = "how match " + m + " is decided";
            if (one == TwoLives.NONE || other == TwoLives.NONE) {
                same(name + ", a side is not known", 0, how);
            } else if (one == TwoLives.BYE || other == TwoLives.BYE) {
                same(name + ", a bye", 1, how);
                same("winner of match " + m + ", a bye", other == TwoLives.BYE ? one : other, real.match(m, 2));
            } else if (how != 3) {
                boolean oneGone = real.player(one, 3) == 1, otherGone = real.player(other, 3) == 1;
                same(name + ", no result", oneGone || otherGone ? 2 : 0, how);
                same("winner of match " + m + ", no result",
                        otherGone ? one : oneGone ? other : TwoLives.NONE, real.match(m, 2));
            }
        }
    }

    /** Each part is asked of a new copy. */
    private void everything() {
        int callsBefore = calls;
        TwoLives realOne = real;
        real = copy();
        decidedAsThingsStand();
        real = copy();
        allMatches(-1, 5);
        real = copy();
        allMatches(6, 12);
        real = copy();
        allPlayers();
        int half = model.count(0) / 2;
        real = copy();
        allMeetings(-1, half);
        real = copy();
        allMeetings(half + 1, model.count(0));
        real = copy();
        allElse();
        real = realOne;
        calls = callsBefore;
    }

    private void allMatches(int first, int last) {
        for (int m = -1; m <= model.count(2); m++) {
            for (int what = first; what <= last; what++) {
                match(m, what);
            }
        }
    }

    private void allPlayers() {
        for (int p = -1; p <= model.count(0); p++) {
            for (int what = -1; what <= 9; what++) {
                player(p, what);
            }
            upsets(p);
        }
    }

    private void allMeetings(int first, int last) {
        for (int one = first; one <= last; one++) {
            for (int other = -1; other <= model.count(0); other++) {
                meet(one, other);
            }
        }
    }

    private void allElse() {
        for (int i = -1; i <= 14; i++) {
            open(i);
            count(i);
            sessions(i);
        }
        same("forecast()", model.forecast(), real.forecast());
        same("fault()", model.fault(), real.fault());
    }
}
