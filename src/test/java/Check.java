/** Counts the answers that are not due, prints them, and ends the test with exit code 1 if there were any. */
final class Check {
    private static int asked = 0;
    private static int wrong = 0;

    private Check() {
    }

    static void due(String call, long want, long got) {
        asked++;
        if (got != want) {
            wrong++;
            System.out.println(call + " answered " + got + ", due is " + want);
        }
    }

    static boolean failed() {
        return wrong > 0;
    }

    static void end() {
        System.out.println(asked + " answers, " + wrong + " of them wrong");
        if (wrong > 0) {
            System.exit(1);
        }
    }

    /** Packs up to 8 characters as put() wants them. */
    static long packed(String text) {
        long characters = 0;
        for (int i = 0; i < text.length(); i++) {
            characters = characters << 8 | text.charAt(i);
        }
        return characters;
    }

    /** Puts a text of any length on the pad, and returns the object. */
    static TwoLives putAll(TwoLives x, String text) {
        for (int i = 0; i < text.length(); i += 8) {
            x.put(packed(text.substring(i, Math.min(i + 8, text.length()))));
        }
        return x;
    }

    /** Enters acts one by one by result() and withdraw(), without the pad; none of them may fail. */
    static void enter(TwoLives x, String acts) {
        for (String act : acts.split(",")) {
            int number = Integer.parseInt(act.replaceAll("[abw]", ""));
            int answer = act.startsWith("w") ? x.withdraw(number) : x.result(number, act.endsWith("a") ? 0 : 1);
            due(act + " of " + acts + " is taken", 1, answer >= 0 ? 1 : 0);
        }
    }

    /** A tournament in which acts have been entered one by one. */
    static TwoLives entered(int players, int cross, String acts) {
        TwoLives x = new TwoLives();
        due("setUp(" + players + ", " + cross + ") is taken", 1, x.setUp(players, cross) > 0 ? 1 : 0);
        if (!acts.isEmpty()) {
            enter(x, acts);
        }
        return x;
    }

    /** Carries out acts, none of which may fail. */
    static void play(TwoLives x, String acts) {
        putAll(x, acts);
        due("carryOut of " + acts, acts.split(",").length, x.carryOut());
    }

    /** All that count(), match() and player() tell. */
    static String told(TwoLives x) {
        StringBuilder all = new StringBuilder();
        for (int what = 0; what < 14; what++) {
            all.append(x.count(what)).append(' ');
        }
        for (int m = 0; m < x.count(2); m++) {
            for (int what = 0; what < 5; what++) {
                all.append(x.match(m, what)).append(' ');
            }
        }
        for (int p = 0; p < x.count(0); p++) {
            for (int what = 0; what < 9; what++) {
                all.append(x.player(p, what)).append(' ');
            }
        }
        return all.toString();
    }
}
