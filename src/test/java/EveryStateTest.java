import java.util.ArrayDeque;
import java.util.ArrayList;
import java.util.HashMap;
import java.util.List;
import java.util.Map;
import java.util.TreeSet;

/**
 * Every state that a tournament of 2 to 4 players can come to, by results and withdrawals in any order: what is
 * told there, what is forecast, and what every act answers there is as the model of the document says; and the
 * same acts in another order make the same state.
 */
final class EveryStateTest {
    private final int players;
    private final int cross;
    private final List<String> allActs = new ArrayList<>();
    private final Map<String, String> toldOf = new HashMap<>();
    private final ArrayDeque<List<String>> toLookAt = new ArrayDeque<>();

    private EveryStateTest(int players, int cross) {
        this.players = players;
        this.cross = cross;
        for (int m = 0; m < 7; m++) {
            allActs.add(m + "a");
            allActs.add(m + "b");
        }
        for (int p = 0; p < players; p++) {
            allActs.add("w" + p);
        }
    }

    public static void main(String[] args) {
        for (int players = 2; players <= 4 && !Check.failed(); players++) {
            for (int cross = 0; cross <= 1; cross++) {
                new EveryStateTest(players, cross).explore();
            }
        }
        Check.end();
    }

    private void explore() {
        comeTo(List.of());
        while (!toLookAt.isEmpty() && !Check.failed()) {
            List<String> acts = toLookAt.remove();
            look(acts);
            forecasts(acts);
            for (String act : allActs) {
                tryAct(acts, act);
            }
        }
    }

    private TwoLives real(List<String> acts) {
        return Check.entered(players, cross, String.join(",", acts));
    }

    private Model model(List<String> acts) {
        Model model = new Model();
        model.setUp(players, cross);
        for (String act : acts) {
            enter(model, act);
        }
        return model;
    }

    private static int numberOf(String act) {
        return Integer.parseInt(act.replaceAll("[abw]", ""));
    }

    private static int sideOf(String act) {
        return act.endsWith("a") ? 0 : 1;
    }

    private static int enter(Model model, String act) {
        return act.startsWith("w") ? model.withdraw(numberOf(act)) : model.result(numberOf(act), sideOf(act));
    }

    private static int enter(TwoLives real, String act) {
        return act.startsWith("w") ? real.withdraw(numberOf(act)) : real.result(numberOf(act), sideOf(act));
    }

    private void tryAct(List<String> acts, String act) {
        int want = enter(model(acts), act);
        due(acts, act, want, enter(real(acts), act));
        if (want >= 0) {
            List<String> further = new ArrayList<>(acts);
            further.add(act);
            comeTo(further);
        }
    }

    private void comeTo(List<String> acts) {
        String state = new TreeSet<>(acts).toString();
        String told = Check.told(real(acts));
        String before = toldOf.putIfAbsent(state, told);
        if (before == null) {
            toLookAt.add(acts);
        } else {
            due(acts, "the order of the acts", 1, before.equals(told) ? 1 : 0);
        }
    }

    private void due(List<String> acts, String call, int want, int got) {
        Check.due(players + " players, CROSS " + cross + ", " + acts + ": " + call, want, got);
    }

    private void look(List<String> acts) {
        Model model = model(acts);
        TwoLives real = real(acts);
        for (int what = 0; what < 14; what++) {
            due(acts, "count " + what, model.count(what), real.count(what));
        }
        for (int m = 0; m < 7; m++) {
            due(acts, "open " + m, model.open(m), real.open(m));
            for (int what = 0; what < 12; what++) {
                due(acts, "match " + m + " " + what, model.match(m, what), real.match(m, what));
            }
        }
        for (int p = 0; p < players; p++) {
            for (int what = 0; what < 9; what++) {
                due(acts, "player " + p + " " + what, model.player(p, what), real.player(p, what));
            }
        }
    }

    /** By the ratings as at first, and the other way round. */
    private void forecasts(List<String> acts) {
        Model model = model(acts);
        TwoLives real = real(acts);
        forecasts(acts, model, real);
        for (int p = 0; p < players; p++) {
            model.rate(p, 100 * p);
            real.rate(p, 100 * p);
        }
        forecasts(acts, model, real);
    }

    private void forecasts(List<String> acts, Model model, TwoLives real) {
        due(acts, "forecast", model.forecast(), real.forecast());
        for (int tables = 1; tables <= 8; tables++) {
            due(acts, "sessions " + tables, model.sessions(tables), real.sessions(tables));
        }
        for (int p = 0; p < players; p++) {
            due(acts, "upsets " + p, model.upsets(p), real.upsets(p));
            for (int other = 0; other < players; other++) {
                due(acts, "meet " + p + " " + other, model.meet(p, other), real.meet(p, other));
            }
        }
    }
}
