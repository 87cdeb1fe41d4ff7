/** Promises 14 to 17: the pad, its faults, and what is carried out from it. */
final class TextTest {
    private static TwoLives x;

    private TextTest() {
    }

    public static void main(String[] args) {
        put();
        wipe();
        fault();
        carryOut();
        Check.end();
    }

    private static void due(String call, int want, int got) {
        Check.due(call, want, got);
    }

    private static void put() {
        x = new TwoLives();
        due("put(0)", -2, x.put(0L));
        due("a space", -2, x.put(32L));
        due("code 33", 1, x.put(33L));
        due("code 126", 2, x.put(126L));
        due("code 127", -2, x.put(127L));
        due("code 128", -2, x.put(128L));
        due("code 255", -2, x.put(255L));
        due("put(-1)", -2, x.put(-1L));
        due("put(MIN_VALUE)", -2, x.put(Long.MIN_VALUE));
        due("a zero below", -2, x.put(0x6100L));
        due("a zero between", -2, x.put(0x610061L));
        due("a bit far above", -2, x.put(0x0100000000000061L));
        due("a bad code in front", -2, x.put(0x2061L));
        due("eight characters", 10, x.put(Check.packed("abcdefgh")));
        x = new TwoLives();
        Check.putAll(x, "12345678123456781234567812345678123456781234567812345678123");
        due("59 characters", 59, x.count(12));
        due("put of two", -4, x.put(Check.packed("ab")));
        due("a bad value first", -2, x.put(0x6120L));
        due("put of one", 60, x.put(Check.packed("a")));
        due("put of one more", -4, x.put(Check.packed("a")));
        due("no character", -2, x.put(0L));
        due("the pad stays", 60, x.count(12));
        x = new TwoLives();
        x.put(Check.packed("1"));
        x.put(Check.packed("b,0a"));
        due("characters come in their order", 2, x.carryOut());
        due("1b", 4, x.match(1, 2));
        due("0a", 0, x.match(0, 2));
    }

    private static void wipe() {
        x = new TwoLives();
        due("wipe() of nothing", 0, x.wipe());
        Check.putAll(x, "abc");
        due("wipe()", 3, x.wipe());
        due("length", 0, x.count(12));
        due("wipe() again", 0, x.wipe());
    }

    private static void faultDue(String text, int want) {
        x = new TwoLives();
        Check.putAll(x, text);
        due("fault of " + text, want, x.fault());
        due("length stays", text.length(), x.count(12));
        due("carryOut of " + text, want == -6 ? 1 : 0, x.carryOut() == -3 ? 0 : 1);
        due("length then", want == -6 ? 0 : text.length(), x.count(12));
    }

    private static void fault() {
        String[] right = {"0a", "9b", "10a", "19b", "20a", "29a", "30b", "w0", "w9", "w10", "w15", "0a,0a", "w1,2b,w3", "30a,w15"};
        for (String text : right) {
            faultDue(text, -6);
        }
        String[] shorts = {"", "0", "3", "30", "w", "0a,", "w0,", "w1,2", "w15,w"};
        for (String text : shorts) {
            faultDue(text, text.length());
        }
        faultDue("a", 0);
        faultDue(",", 0);
        faultDue("W1", 0);
        faultDue("/a", 0);
        faultDue(":a", 0);
        faultDue("00a", 1);
        faultDue("01a", 1);
        faultDue("31a", 1);
        faultDue("39a", 1);
        faultDue("40a", 1);
        faultDue("300a", 2);
        faultDue("100a", 2);
        faultDue("0A", 1);
        faultDue("0c", 1);
        faultDue("0w", 1);
        faultDue("0,", 1);
        faultDue("0ab", 2);
        faultDue("0a0", 2);
        faultDue("0a,,", 3);
        faultDue("0a,a", 3);
        faultDue("wa", 1);
        faultDue("ww", 1);
        faultDue("w,", 1);
        faultDue("w00", 2);
        faultDue("w01", 2);
        faultDue("w16", 2);
        faultDue("w20", 2);
        faultDue("w150", 3);
        faultDue("w1a", 2);
        faultDue("w1w", 2);
        faultDue("0a,w1,31b", 7);
    }

    private static void carryOut() {
        x = new TwoLives();
        due("an empty pad", -3, x.carryOut());
        Check.putAll(x, "0a,w7,7a,1b");
        due("until one fails", 2, x.carryOut());
        due("pad is empty", 0, x.count(12));
        due("acts", 2, x.count(13));
        due("what is behind is not carried out", 0, x.match(1, 4));
        Check.putAll(x, "30a");
        due("no such match", 0, x.carryOut());
        Check.putAll(x, "w8,1a");
        due("no such player", 0, x.carryOut());
        Check.putAll(x, "1a,2b,3a,w4,x");
        due("a fault at the end", -3, x.carryOut());
        due("nothing is carried out", 2, x.count(13));
        due("the pad stays", 13, x.wipe());
        x.setUp(16, 0);
        Check.putAll(x, "0a,1a,2a,3a,4b,5b,6b,7b,w10,w11,w12,w13,w14,w15,15a,8b");
        due("many acts", 14, x.carryOut());
        due("results", 8, x.count(4));
        due("15 lost, withdrew, and met 8 by a walkover", 2, x.match(15, 4));
    }
}
