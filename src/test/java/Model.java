import java.util.ArrayList;
import java.util.List;
import java.util.regex.Pattern;

/**
 * The document once more, written another way: each side of a match names the match that it comes from,
 * every act is followed by looking, without any order, for matches to settle until none is left, and a copy
 * is a new object. What is decided follows from the results and from who has withdrawn, and from nothing else.
 */
final class Model {
    static final int BYE = 16, NO_SUCH = -1, BAD_VALUE = -2, BAD_TEXT = -3, TOO_MANY = -4, NOT_POSSIBLE = -5, NONE = -6;

    /** Where a side comes from: a seed, or the winner or the loser of a match. */
    private record Source(int seed, int match, boolean winner) {
    }

    private static final class Decision {
        final int winner, loser, kind;

        Decision(int winner, int loser, int kind) {
            this.winner = winner;
            this.loser = loser;
            this.kind = kind;
        }
    }

    private static final class Saved {
        int n, cross;
        int[] ratings;
        List<int[]> acts;
    }

    private int n, cross, size, rounds;
    private int[] ratings = new int[16];
    private final List<int[]> acts = new ArrayList<>();
    private final List<int[]> names = new ArrayList<>();
    private final List<Source[]> sources = new ArrayList<>();
    private Integer[] results;
    private Decision[] decisions;
    private boolean[] gone;
    private String pad = "";
    private final Saved[] slots = new Saved[2];

    Model() {
        begin(8, 0);
    }

    private Model(Model other) {
        lay(other.n, other.cross);
        ratings = other.ratings.clone();
        results = other.results.clone();
        decisions = other.decisions.clone();
        gone = other.gone.clone();
    }

    private void begin(int players, int crossing) {
        lay(players, crossing);
        for (int p = 0; p < 16; p++) {
            ratings[p] = 1500 - 10 * p;
        }
        acts.clear();
        reset();
    }

    private void reset() {
        results = new Integer[names.size()];
        gone = new boolean[16];
        settle();
    }

    private static List<Integer> seeds(int many) {
        if (many == 1) {
            return List.of(0);
        }
        List<Integer> order = new ArrayList<>();
        for (int x : seeds(many / 2)) {
            order.add(x);
            order.add(many - 1 - x);
        }
        return order;
    }

    private void lay(int players, int crossing) {
        n = players;
        cross = crossing;
        size = n <= 4 ? 4 : n <= 8 ? 8 : 16;
        rounds = n <= 4 ? 2 : n <= 8 ? 3 : 4;
        names.clear();
        sources.clear();
        for (int k = 1; k <= rounds; k++) {
            for (int i = 0; i < size / (1 << k); i++) {
                names.add(new int[] {0, k, i});
            }
        }
        for (int k = 1; k <= 2 * rounds - 2; k++) {
            int j = k % 2 == 1 ? (k + 1) / 2 : k / 2;
            for (int i = 0; i < size / (1 << (j + 1)); i++) {
                names.add(new int[] {1, k, i});
            }
        }
        names.add(new int[] {2, 1, 0});
        names.add(new int[] {2, 2, 0});
        List<Integer> order = seeds(size);
        for (int[] name : names) {
            sources.add(new Source[] {source(name, 0, order), source(name, 1, order)});
        }
    }

    private int find(int part, int round, int index) {
        for (int m = 0; m < names.size(); m++) {
            int[] name = names.get(m);
            if (name[0] == part && name[1] == round && name[2] == index) {
                return m;
            }
        }
        throw new IllegalStateException("no match " + part + " " + round + " " + index);
    }

    private int many(int part, int round) {
        int many = 0;
        for (int[] name : names) {
            many += name[0] == part && name[1] == round ? 1 : 0;
        }
        return many;
    }

    private Source source(int[] name, int side, List<Integer> order) {
        int part = name[0], k = name[1], i = name[2];
        if (part == 0) {
            return k == 1 ? new Source(order.get(2 * i + side), -1, false)
                    : new Source(-1, find(0, k - 1, 2 * i + side), true);
        }
        if (part == 2) {
            if (k == 2) {
                return null;
            }
            return side == 0 ? new Source(-1, find(0, rounds, 0), true) : new Source(-1, find(1, 2 * rounds - 2, 0), true);
        }
        if (k == 1) {
            return new Source(-1, find(0, 1, 2 * i + side), false);
        }
        if (k % 2 == 1) {
            return new Source(-1, find(1, k - 1, 2 * i + side), true);
        }
        if (side == 0) {
            return new Source(-1, find(1, k - 1, i), true);
        }
        int upper = k / 2 + 1;
        int from = cross == 1 && upper % 2 == 0 ? many(0, upper) - 1 - i : i;
        return new Source(-1, find(0, upper, from), false);
    }

    private int side(int m, int side) {
        Source source = sources.get(m)[side];
        if (source == null) {
            Decision last = decisions[m - 1];
            if (last == null || last.winner != side(m - 1, 1)) {
                return NONE;
            }
            return side(m - 1, side);
        }
        if (source.match < 0) {
            return source.seed < n ? source.seed : BYE;
        }
        Decision decision = decisions[source.match];
        return decision == null ? NONE : source.winner ? decision.winner : decision.loser;
    }

    private void settle() {
        decisions = new Decision[names.size()];
        boolean again = true;
        while (again) {
            again = false;
            for (int m = names.size() - 1; m >= 0; m--) {
                if (decisions[m] == null) {
                    decisions[m] = decision(side(m, 0), side(m, 1), results[m]);
                    again = again || decisions[m] != null;
                }
            }
        }
    }

    private Decision decision(int one, int other, Integer result) {
        if (one == NONE || other == NONE) {
            return null;
        }
        if (one == BYE || other == BYE) {
            return other == BYE ? new Decision(one, other, 1) : new Decision(other, one, 1);
        }
        if (result == null && gone[one] && gone[other]) {
            return new Decision(one, other, 2);
        }
        if (result == null && (gone[one] || gone[other])) {
            return gone[one] ? new Decision(other, one, 2) : new Decision(one, other, 2);
        }
        if (result == null) {
            return null;
        }
        return result == 0 ? new Decision(one, other, 3) : new Decision(other, one, 3);
    }

    private void win(int m, int player) {
        results[m] = side(m, 0) == player ? 0 : 1;
    }

    private int undecided() {
        int many = 0;
        for (Decision decision : decisions) {
            many += decision == null ? 1 : 0;
        }
        return many;
    }

    private List<Integer> opens() {
        List<Integer> opens = new ArrayList<>();
        for (int m = 0; m < names.size(); m++) {
            int one = side(m, 0), other = side(m, 1);
            if (decisions[m] == null && one >= 0 && one < BYE && other >= 0 && other < BYE) {
                opens.add(m);
            }
        }
        return opens;
    }

    private boolean hasPlace(int p) {
        return next(p) == NONE;
    }

    private int next(int p) {
        for (int m = 0; m < names.size(); m++) {
            if (decisions[m] == null && (side(m, 0) == p || side(m, 1) == p)) {
                return m;
            }
        }
        return NONE;
    }

    private int champion() {
        Decision last = decisions[decisions.length - 1];
        Decision first = decisions[decisions.length - 2];
        if (last != null) {
            return last.winner;
        }
        return first != null && first.winner == side(decisions.length - 2, 0) ? first.winner : NONE;
    }

    private int tally(int p, boolean wins, boolean losses, int leastKind) {
        int many = 0;
        for (Decision decision : decisions) {
            if (decision != null && decision.kind >= leastKind) {
                many += wins && decision.winner == p || losses && decision.loser == p ? 1 : 0;
            }
        }
        return many;
    }

    private boolean isBye(Source source) {
        if (source.match < 0) {
            return source.seed >= n;
        }
        boolean one = isBye(sources.get(source.match)[0]), other = isBye(sources.get(source.match)[1]);
        return source.winner ? one && other : one || other;
    }

    private int realMatches(int lowerRound) {
        int many = 0;
        for (int m = 0; m < names.size(); m++) {
            if (names.get(m)[0] == 1 && names.get(m)[1] == lowerRound) {
                many += isBye(sources.get(m)[0]) || isBye(sources.get(m)[1]) ? 0 : 1;
            }
        }
        return many;
    }

    private int place(int p, boolean best) {
        if (!hasPlace(p)) {
            return NONE;
        }
        for (int m = 0; m < names.size(); m++) {
            if (names.get(m)[0] == 1 && decisions[m] != null && decisions[m].loser == p) {
                int later = 0;
                for (int k = names.get(m)[1] + 1; k <= 2 * rounds - 2; k++) {
                    later += realMatches(k);
                }
                return best ? later + 3 : later + 2 + realMatches(names.get(m)[1]);
            }
        }
        return champion() == p ? 1 : 2;
    }

    private int better(int one, int other) {
        if (ratings[one] == ratings[other]) {
            return Math.min(one, other);
        }
        return ratings[one] > ratings[other] ? one : other;
    }

    private int better(int m) {
        return better(side(m, 0), side(m, 1));
    }

    /** The least and the greatest number of results to come, by trying out every result of every match. */
    private int[] tryAll() {
        List<Integer> opens = opens();
        if (opens.isEmpty()) {
            return new int[] {0, 0};
        }
        int[] bounds = {Integer.MAX_VALUE, 0};
        for (int side = 0; side < 2; side++) {
            Model trial = new Model(this);
            trial.win(opens.get(0), side(opens.get(0), side));
            trial.settle();
            int[] further = trial.tryAll();
            bounds[0] = Math.min(bounds[0], 1 + further[0]);
            bounds[1] = Math.max(bounds[1], 1 + further[1]);
        }
        return bounds;
    }

    /** How many results there are if the final is won by a side, and all else goes as forecast. */
    private int length(int sideOfTheFinal) {
        Model trial = new Model(this);
        int results = 0;
        while (!trial.opens().isEmpty()) {
            int m = trial.opens().get(0);
            boolean isFinal = m == names.size() - 2;
            trial.win(m, isFinal ? trial.side(m, sideOfTheFinal) : trial.better(m));
            trial.settle();
            results++;
        }
        return results;
    }

    /** All is tried out if it is not too much; otherwise both differ by who wins the final. */
    private int resultsToCome(int which) {
        return length(1) > 8 ? length(which) : tryAll()[which];
    }

    int setUp(int players, int crossing) {
        if (players < 2 || players > 16 || crossing < 0 || crossing > 1) {
            return BAD_VALUE;
        }
        begin(players, crossing);
        return names.size();
    }

    private boolean noPlayer(int p) {
        return p < 0 || p >= n;
    }

    int rate(int p, int rating) {
        if (noPlayer(p)) {
            return NO_SUCH;
        }
        if (rating < 0 || rating > 9999) {
            return BAD_VALUE;
        }
        int previous = ratings[p];
        ratings[p] = rating;
        return previous;
    }

    int result(int m, int side) {
        if (m < 0 || m >= names.size()) {
            return NO_SUCH;
        }
        if (side != 0 && side != 1) {
            return BAD_VALUE;
        }
        if (!opens().contains(m)) {
            return NOT_POSSIBLE;
        }
        acts.add(new int[] {m, side});
        int winner = side(m, side);
        win(m, winner);
        settle();
        return winner;
    }

    int withdraw(int p) {
        if (noPlayer(p)) {
            return NO_SUCH;
        }
        if (gone[p] || hasPlace(p)) {
            return NOT_POSSIBLE;
        }
        acts.add(new int[] {p});
        int before = undecided();
        gone[p] = true;
        settle();
        return before - undecided();
    }

    int match(int m, int what) {
        if (m < 0 || m >= names.size()) {
            return NO_SUCH;
        }
        Decision decision = decisions[m];
        switch (what) {
            case 0:
            case 1:
                return side(m, what);
            case 2:
                return decision == null ? NONE : decision.winner;
            case 3:
                return decision == null ? NONE : decision.loser;
            case 4:
                return decision == null ? 0 : decision.kind;
            case 5:
            case 6:
            case 7:
                return names.get(m)[what - 5];
            case 8:
            case 9:
            case 10:
            case 11:
                return way(m, what % 2 == 0, what < 10);
            default:
                return BAD_VALUE;
        }
    }

    private int way(int from, boolean winner, boolean match) {
        for (int m = 0; m < names.size(); m++) {
            for (int side = 0; side < 2; side++) {
                Source source = sources.get(m)[side];
                if (source != null && source.match == from && source.winner == winner) {
                    return match ? m : side;
                }
            }
        }
        return NONE;
    }

    int player(int p, int what) {
        if (noPlayer(p)) {
            return NO_SUCH;
        }
        switch (what) {
            case 0:
                return ratings[p];
            case 1:
                return tally(p, true, false, 2);
            case 2:
                return tally(p, false, true, 2);
            case 3:
                return gone[p] ? 1 : 0;
            case 4:
                return hasPlace(p) ? 3 : names.get(next(p))[0];
            case 5:
                return next(p);
            case 6:
                return place(p, true);
            case 7:
                return place(p, false);
            case 8:
                return tally(p, true, true, 3);
            default:
                return BAD_VALUE;
        }
    }

    int open(int index) {
        return index < 0 || index >= opens().size() ? NONE : opens().get(index);
    }

    private int decided(int kind) {
        int many = 0;
        for (Decision decision : decisions) {
            many += decision != null && decision.kind == kind ? 1 : 0;
        }
        return many;
    }

    int count(int what) {
        switch (what) {
            case 0:
                return n;
            case 1:
                return size;
            case 2:
                return names.size();
            case 3:
                return cross;
            case 4:
                return decided(3);
            case 5:
                return decided(2);
            case 6:
                return decided(1);
            case 7:
                return opens().size();
            case 8:
                return champion();
            case 9:
                int placed = 0;
                for (int p = 0; p < n; p++) {
                    placed += hasPlace(p) ? 1 : 0;
                }
                return placed;
            case 10:
            case 11:
                return resultsToCome(what - 10);
            case 12:
                return pad.length();
            case 13:
                return acts.size();
            default:
                return BAD_VALUE;
        }
    }

    int forecast() {
        Model trial = new Model(this);
        while (!trial.opens().isEmpty()) {
            trial.win(trial.opens().get(0), trial.better(trial.opens().get(0)));
            trial.settle();
        }
        return trial.champion();
    }

    int upsets(int p) {
        if (noPlayer(p)) {
            return NO_SUCH;
        }
        if (gone[p] || hasPlace(p) && champion() != p) {
            return NOT_POSSIBLE;
        }
        Model trial = new Model(this);
        int upsets = 0;
        while (!trial.opens().isEmpty()) {
            int m = trial.opens().get(trial.opens().size() - 1);
            if (trial.side(m, 0) == p || trial.side(m, 1) == p) {
                upsets += trial.better(m) == p ? 0 : 1;
                trial.win(m, p);
            } else {
                trial.win(m, trial.better(m));
            }
            trial.settle();
        }
        return upsets;
    }

    int sessions(int tables) {
        if (tables < 1 || tables > 8) {
            return BAD_VALUE;
        }
        Model trial = new Model(this);
        int turns = 0;
        for (List<Integer> opens = trial.opens(); !opens.isEmpty(); opens = trial.opens()) {
            for (int m : opens.subList(0, Math.min(tables, opens.size()))) {
                trial.win(m, trial.better(m));
            }
            trial.settle();
            turns++;
        }
        return turns;
    }

    int meet(int one, int other) {
        if (noPlayer(one) || noPlayer(other)) {
            return NO_SUCH;
        }
        if (one == other) {
            return BAD_VALUE;
        }
        if (gone[one] || gone[other] || hasPlace(one) || hasPlace(other)) {
            return NONE;
        }
        List<Integer> ways = new ArrayList<>();
        for (int m = next(one); m != NONE; m = match(m, 8)) {
            ways.add(m);
        }
        int m = next(other);
        while (!ways.contains(m)) {
            m = match(m, 8);
        }
        return m;
    }

    int put(long characters) {
        StringBuilder text = new StringBuilder();
        boolean ended = false;
        for (int i = 0; i < 8; i++) {
            int code = (int) (characters >>> (8 * i)) & 255;
            if (code == 0) {
                ended = true;
            } else if (ended || code < 33 || code > 126) {
                return BAD_VALUE;
            } else {
                text.insert(0, (char) code);
            }
        }
        if (text.length() == 0) {
            return BAD_VALUE;
        }
        if (pad.length() + text.length() > 60) {
            return TOO_MANY;
        }
        pad = pad + text;
        return pad.length();
    }

    int wipe() {
        int length = pad.length();
        pad = "";
        return length;
    }

    private static final String ACT = "(?:(?:[0-9]|[12][0-9]|30)[ab]|w(?:[0-9]|1[0-5]))";
    private static final Pattern ACTS = Pattern.compile(ACT + "(?:," + ACT + ")*");

    /** A text can be gone on from if a few characters make acts of it. */
    private static boolean canStand(String beginning) {
        for (String end : new String[] {"", "a", "0", "0a"}) {
            if (ACTS.matcher(beginning + end).matches()) {
                return true;
            }
        }
        return false;
    }

    int fault() {
        for (int i = 0; i < pad.length(); i++) {
            if (!canStand(pad.substring(0, i + 1))) {
                return i;
            }
        }
        return ACTS.matcher(pad).matches() ? NONE : pad.length();
    }

    int carryOut() {
        if (fault() != NONE) {
            return BAD_TEXT;
        }
        int done = 0;
        for (String act : pad.split(",")) {
            int answer;
            if (act.startsWith("w")) {
                answer = withdraw(Integer.parseInt(act.substring(1)));
            } else {
                int m = Integer.parseInt(act.substring(0, act.length() - 1));
                answer = result(m, act.endsWith("a") ? 0 : 1);
            }
            if (answer < 0) {
                break;
            }
            done++;
        }
        pad = "";
        return done;
    }

    private void replay(List<int[]> former) {
        acts.clear();
        reset();
        for (int[] act : former) {
            if (act.length == 1) {
                withdraw(act[0]);
            } else {
                result(act[0], act[1]);
            }
        }
    }

    int undo() {
        if (acts.isEmpty()) {
            return NOT_POSSIBLE;
        }
        replay(new ArrayList<>(acts.subList(0, acts.size() - 1)));
        return acts.size();
    }

    int save(int slot) {
        if (slot < 0 || slot > 1) {
            return BAD_VALUE;
        }
        Saved saved = new Saved();
        saved.n = n;
        saved.cross = cross;
        saved.ratings = ratings.clone();
        saved.acts = new ArrayList<>(acts);
        slots[slot] = saved;
        return decided(3);
    }

    int restore(int slot) {
        if (slot < 0 || slot > 1) {
            return BAD_VALUE;
        }
        Saved saved = slots[slot];
        if (saved == null) {
            return NOT_POSSIBLE;
        }
        begin(saved.n, saved.cross);
        ratings = saved.ratings.clone();
        replay(saved.acts);
        return decided(3);
    }
}
