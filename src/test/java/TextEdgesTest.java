/** Promises 14 to 17, at their edges: a method for each sentence that names one. */
final class TextEdgesTest {
    /** 59 characters, and 20 acts that a tournament of 16 players takes in this order. */
    private static final String TWENTY_ACTS = "0a,1a,2a,3a,4a,5a,6a,7a,8a,9a,w0,w1,w2,w3,w4,w5,w6,w7,w8,w9";

    private TextEdgesTest() {
    }

    public static void main(String[] args) {
        putTakesOneToEightCharacters();
        putAppends();
        putPutsTheLowestBitsLast();
        putRefusesNoCharacter();
        putTakesCodes33To126();
        putRefusesOtherCodes();
        putRefusesBitsAboveTheEnd();
        putTakesSixtyCharacters();
        putRefusesMoreThanSixty();
        putRefusesBadValuesFirst();
        wipeReturnsTheLength();
        wipeEmptiesThePad();
        faultOfAnEmptyPad();
        faultTakesMatchesZeroToThirty();
        faultTakesPlayersZeroToFifteen();
        faultFindsLeadingZeros();
        faultDoesNotAskForTheTournament();
        faultFindsTheFirstCharacter();
        faultFindsTheEnd();
        faultOfAFullPad();
        faultChangesNothing();
        carryOutRefusesFaults();
        carryOutStopsAtTheFirstThatFails();
        carryOutReturnsTheActsThatDidNotFail();
        carryOutEmptiesThePad();
        carryOutTakesAFullPad();
        carryOutMakesActsThatCanBeUndone();
        Check.end();
    }

    private static void due(String call, int want, int got) {
        Check.due(call, want, got);
    }

    private static TwoLives with(String pad) {
        return Check.putAll(Check.entered(8, 0, ""), pad);
    }

    private static String many(int characters) {
        return "1234567890".repeat(6).substring(0, characters);
    }

    // ---- promise 14

    private static void putTakesOneToEightCharacters() {
        for (int many = 1; many <= 8; many++) {
            TwoLives x = new TwoLives();
            long characters = Check.packed("~!~!~!~!".substring(0, many));
            due("put of " + many, many, x.put(characters));
            due("length", many, x.count(12));
            due("put of " + many + " again", 2 * many, x.put(characters));
        }
        due("the greatest code eight times", 8, new TwoLives().put(0x7E7E7E7E7E7E7E7EL));
        due("the least code eight times", 8, new TwoLives().put(0x2121212121212121L));
    }

    private static void putAppends() {
        TwoLives x = new TwoLives();
        due("put", 1, x.put(Check.packed("0")));
        due("put behind it", 3, x.put(Check.packed("a,")));
        due("put behind both", 5, x.put(Check.packed("1b")));
        due("carryOut()", 2, x.carryOut());
        due("winner of match 0", 0, x.match(0, 2));
        due("winner of match 1", 4, x.match(1, 2));
    }

    private static void putPutsTheLowestBitsLast() {
        TwoLives x = new TwoLives();
        x.put(0x7731L);
        due("w1", -6, x.fault());
        x = new TwoLives();
        x.put(0x3177L);
        due("1w", 1, x.fault());
        x = new TwoLives();
        x.put(0x30612C31622C7735L);
        due("0a,1b,w5", 3, x.carryOut());
        due("1b", 4, x.match(1, 2));
    }

    private static void putRefusesNoCharacter() {
        Untouched.by("put(0)", -2, x -> x.put(0L));
        Untouched.by("put(0) on an empty pad", -2, TwoLives::new, x -> x.put(0L));
    }

    private static void putTakesCodes33To126() {
        TwoLives x = new TwoLives();
        for (int code = 33; code <= 126; code++) {
            due("put of the code " + code, 1, x.put(code));
            due("put of the code " + code + " before another", 3, x.put(code << 8 | 33));
            due("put of the code " + code + " as the first of eight", 11, x.put((long) code << 56 | 0x21212121212121L));
            x.wipe();
        }
    }

    private static void putRefusesOtherCodes() {
        for (int code = 1; code <= 255; code++) {
            if (code < 33 || code > 126) {
                TwoLives x = new TwoLives();
                due("put of the code " + code, -2, x.put(code));
                due("put of the code " + code + " before another", -2, x.put((long) code << 8 | 33));
                due("put of the code " + code + " behind another", -2, x.put(33L << 8 | code));
                due("put of the code " + code + " as the first of eight", -2, x.put((long) code << 56 | 0x21212121212121L));
                due("the pad stays empty", 0, x.count(12));
            }
        }
        for (long code : new long[] {1, 32, 127, 128, 161, 255}) {
            Untouched.by("put(" + code + ")", -2, x -> x.put(code));
        }
        for (long bits : new long[] {Long.MIN_VALUE, Long.MIN_VALUE + 33, -1L, Long.MAX_VALUE, Integer.MIN_VALUE}) {
            Untouched.by("put(" + bits + ")", -2, x -> x.put(bits));
        }
    }

    private static void putRefusesBitsAboveTheEnd() {
        for (int bit = 16; bit < 64; bit++) {
            long characters = 1L << bit | 33;
            due("put(" + characters + ")", -2, new TwoLives().put(characters));
        }
        for (int bit = 8; bit < 64; bit++) {
            long characters = 1L << bit;
            due("put(" + characters + ")", -2, new TwoLives().put(characters));
        }
        for (long characters : new long[] {0x6100L, 0x610061L, 0x6100000000000000L, 0x6100616161616161L, 0x6161610061616161L}) {
            Untouched.by("put(" + characters + ")", -2, x -> x.put(characters));
        }
    }

    private static void putTakesSixtyCharacters() {
        for (int many = 1; many <= 8; many++) {
            TwoLives x = with(many(60 - many));
            due("length before", 60 - many, x.count(12));
            due("put of " + many + " up to 60", 60, x.put(Check.packed(many(many))));
            due("length", 60, x.count(12));
        }
    }

    private static void putRefusesMoreThanSixty() {
        for (int many = 1; many <= 8; many++) {
            long characters = Check.packed(many(many));
            int before = 61 - many;
            Untouched.by("put of " + many + " up to 61", -4, () -> with(many(before)), x -> x.put(characters));
            Untouched.by("put of " + many + " on a full pad", -4, () -> with(many(60)), x -> x.put(characters));
        }
        TwoLives x = with(many(53));
        due("put of eight", -4, x.put(Check.packed(many(8))));
        due("put of seven then", 60, x.put(Check.packed(many(7))));
    }

    private static void putRefusesBadValuesFirst() {
        for (long characters : new long[] {0L, 32L, 127L, 0x610061L, -1L, Long.MIN_VALUE}) {
            Untouched.by("put(" + characters + ") on a full pad", -2, () -> with(many(60)), x -> x.put(characters));
        }
    }

    // ---- promise 15

    private static void wipeReturnsTheLength() {
        for (int many = 0; many <= 60; many++) {
            due("wipe() of " + many, many, with(many(many)).wipe());
        }
        Untouched.by("wipe() of an empty pad", 0, TwoLives::new, x -> x.wipe());
    }

    private static void wipeEmptiesThePad() {
        TwoLives x = with(many(60));
        x.wipe();
        due("length", 0, x.count(12));
        due("wipe() again", 0, x.wipe());
        due("fault() of nothing", 0, x.fault());
        due("carryOut() of nothing", -3, x.carryOut());
        due("put() then", 2, x.put(Check.packed("0b")));
        due("nothing of the former text is left", -6, x.fault());
        due("0b alone", 1, x.carryOut());
        due("winner of match 0", 7, x.match(0, 2));
    }

    // ---- promise 16

    private static void faultIs(String text, int want) {
        due("fault of " + text, want, with(text).fault());
    }

    private static void faultOfAnEmptyPad() {
        due("fault() of a new object", 0, new TwoLives().fault());
    }

    private static void faultTakesMatchesZeroToThirty() {
        for (int m = 0; m <= 30; m++) {
            faultIs(m + "a", -6);
            faultIs(m + "b", -6);
            faultIs("w0," + m + "b", -6);
        }
        for (int m = 31; m <= 99; m++) {
            faultIs(m + "a", 1);
            faultIs("0a," + m + "b", 4);
        }
        for (int m = 100; m <= 309; m++) {
            faultIs(m + "a", 2);
        }
        faultIs("99999999999a", 1);
    }

    private static void faultTakesPlayersZeroToFifteen() {
        for (int p = 0; p <= 15; p++) {
            faultIs("w" + p, -6);
            faultIs("30b,w" + p, -6);
        }
        for (int p = 16; p <= 99; p++) {
            faultIs("w" + p, 2);
            faultIs("0a,w" + p, 5);
        }
        for (int p = 100; p <= 159; p++) {
            faultIs("w" + p, 3);
        }
        faultIs("w99999999999", 2);
    }

    private static void faultFindsLeadingZeros() {
        for (int digit = 0; digit <= 9; digit++) {
            faultIs("0" + digit + "a", 1);
            faultIs("w0" + digit, 2);
            faultIs("1a,0" + digit + "b", 4);
            faultIs("1a,w0" + digit, 5);
        }
        faultIs("0a", -6);
        faultIs("w0", -6);
    }

    private static void faultDoesNotAskForTheTournament() {
        TwoLives x = Check.entered(2, 0, "w0");
        Check.putAll(x, "30a,w15,0a,w0,w0");
        due("no such matches or players", -6, x.fault());
    }

    /** Every character at every kind of place: what can stand there, and nothing else. */
    private static void faultFindsTheFirstCharacter() {
        String[] beginnings = {"", "0a,", "w1,", "0", "1", "2", "3", "10", "30", "w", "w0", "w1", "w2", "w15", "0a", "30b"};
        String digits = "0123456789";
        String[] follow = {digits + "w", digits + "w", digits + "w", "ab", digits + "ab", digits + "ab", "0ab", "ab", "ab",
            digits, ",", "012345,", ",", ",", ",", ","};
        for (int i = 0; i < beginnings.length; i++) {
            for (char c = 33; c <= 126; c++) {
                String text = beginnings[i] + c;
                int fault = with(text).fault();
                boolean stands = follow[i].indexOf(c) >= 0;
                due("fault of " + text, 1, (fault != text.length() - 1) == stands ? 1 : 0);
                due("fault of " + text + " and a bad one", stands ? text.length() : text.length() - 1, with(text + "~").fault());
            }
        }
    }

    private static void faultFindsTheEnd() {
        for (String text : new String[] {"0", "9", "30", "w", "0a,", "w15,", "0a,1", "0a,w", "0a,1b,"}) {
            faultIs(text, text.length());
        }
    }

    private static void faultOfAFullPad() {
        faultIs(TWENTY_ACTS, -6);
        faultIs(TWENTY_ACTS + ",", 60);
        faultIs(TWENTY_ACTS + "a", 59);
        faultIs(TWENTY_ACTS.replace("w9", "w15"), -6);
        faultIs(TWENTY_ACTS.replace("w9", "w16"), 59);
    }

    private static void faultChangesNothing() {
        Untouched.by("fault()", -6, x -> x.fault());
        Untouched.by("fault() of 0a,", 3, () -> with("0a,"), x -> x.fault());
        Untouched.by("fault() of 0x", 1, () -> with("0x"), x -> x.fault());
    }

    // ---- promise 17

    private static void carryOutRefusesFaults() {
        for (String text : new String[] {"", "0", "0a,", "w", "31a", "0a,1b,w16", "0a,1b,2ax", "00a"}) {
            Untouched.by("carryOut() of " + text, -3, () -> with(text), x -> x.carryOut());
        }
    }

    private static void carriedOut(String text, int want, int results, int acts) {
        TwoLives x = with(text);
        due("carryOut of " + text, want, x.carryOut());
        due("its results", results, x.count(4));
        due("its acts", acts, x.count(13));
        due("the pad", 0, x.count(12));
    }

    private static void carryOutStopsAtTheFirstThatFails() {
        carriedOut("15a,0a", 0, 0, 0);
        carriedOut("w8,0a", 0, 0, 0);
        carriedOut("4a,0a", 0, 0, 0);
        carriedOut("14b,0a", 0, 0, 0);
        carriedOut("0a,0a,1a", 1, 1, 1);
        carriedOut("0a,0b,1a", 1, 1, 1);
        carriedOut("w7,w7,1a", 1, 0, 1);
        carriedOut("0a,1a,w0,30b,2a", 3, 2, 3);
        carriedOut("0a,1a,7a,w4,2a", 3, 3, 3);
    }

    private static void carryOutReturnsTheActsThatDidNotFail() {
        carriedOut("0a", 1, 1, 1);
        carriedOut("w0", 1, 0, 1);
        carriedOut("0a,w1", 2, 1, 2);
        carriedOut("w1,w2,w3,w4,w5,w6,w7", 7, 0, 7);
        carriedOut("w1,w2,w3,w4,w5,w6,w7,w0", 7, 0, 7);
        carriedOut("0a,1a,2a,3a,4b,5b,6a,7a,8a,9a,10b,11a,12b,13b,14a", 15, 15, 15);
    }

    private static void carryOutEmptiesThePad() {
        TwoLives x = with("0a,0a,1a");
        due("carryOut()", 1, x.carryOut());
        due("carryOut() again, of nothing", -3, x.carryOut());
        due("fault() of nothing", 0, x.fault());
        due("what is behind stays undecided", 0, x.match(1, 4));
    }

    private static void carryOutTakesAFullPad() {
        TwoLives x = Check.putAll(Check.entered(16, 0, ""), TWENTY_ACTS);
        due("twenty acts", 20, x.carryOut());
        due("results", 10, x.count(4));
        due("acts", 20, x.count(13));
        x = Check.putAll(Check.entered(16, 0, ""), TWENTY_ACTS.replace("w9", "w15"));
        due("the last of sixty characters counts: w15", 20, x.carryOut());
        due("withdrawn 15", 1, x.player(15, 3));
        due("not 1", 1, x.player(1, 3));
        due("not 9", 0, x.player(9, 3));
    }

    private static void carryOutMakesActsThatCanBeUndone() {
        TwoLives x = with("0a,w1,3b,0a");
        due("carryOut()", 3, x.carryOut());
        due("undo() of 3b", 2, x.undo());
        due("match 3", 0, x.match(3, 4));
        due("undo() of w1", 1, x.undo());
        due("match 2", 0, x.match(2, 4));
        due("undo() of 0a", 0, x.undo());
        due("undo() of nothing", -5, x.undo());
    }
}
