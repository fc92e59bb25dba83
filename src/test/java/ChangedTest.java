/** Promises 26 to 32: what is changed. */
public final class ChangedTest {
    private static final Due due = new Due();

    public static void main(String[] args) {
        replace();
        replaceBy();
        delete();
        deleteAt();
        setSign();
        turn();
        setLength();
        due.end();
    }

    private static void replace() {
        Signrope ropes = Due.ropesOf(69, 0, 0, 0);
        due.is("26: by a shorter one", 5, ropes.replace(0, 1, 4, 68));
        due.is("26: text", "a{}bc", ropes.text(0));
        due.is("26: by a longer one", 8, ropes.replace(0, 0, 1, 62));
        due.is("26: text", "abab{}bc", ropes.text(0));
        due.is("26: nothing goes", 9, ropes.replace(0, 8, 8, 66));
        due.is("26: nothing comes", 7, ropes.replace(0, 4, 6, 0));
        due.is("26: behind the end", 5, ropes.replace(0, 3, 300, 60));
        due.is("26: text", "abaaa", ropes.text(0));
        due.is("26: at the end and behind", 6, ropes.replace(0, 5, Integer.MAX_VALUE, 5));
        due.is("26: all", 0, ropes.replace(0, 0, 6, 0));
        due.is("26: acts", 11, ropes.house(4));
        due.refusesEach(ropes, "26: at rope", Due.NO_PLACE, Due.NO_ROPES, rope -> ropes.replace(rope, 0, 0, 70));
        ropes.begin(0, 69);
        due.refusesEach(ropes, "26: word", Due.NO_ARGUMENT, Due.NO_WORDS, word -> ropes.replace(0, 0, 6, word));
        wrongCuts("26: replace", ropes, (from, to) -> ropes.replace(0, from, to, 1));
        Due.fill(ropes, 0, 239);
        due.refuses(ropes, "26: too long", Due.TOO_LONG, () -> ropes.replace(0, 4, 5, 3));
        due.refuses(ropes, "26: too long at the end", Due.TOO_LONG, () -> ropes.replace(0, 239, 500, 2));
        due.refuses(ropes, "26: no cut ahead of too long", Due.NO_ARGUMENT, () -> ropes.replace(0, 240, 500, 2));
        due.is("26: just full", 240, ropes.replace(0, 4, 5, 2));
    }

    private static void replaceBy() {
        Signrope ropes = Due.ropesOf(69, 68, 0, 0);
        due.is("27: by another", 5, ropes.replaceBy(0, 1, 4, 1));
        due.is("27: text", "a{}bc", ropes.text(0));
        due.is("27: by itself", 8, ropes.replaceBy(0, 1, 3, 0));
        due.is("27: text", "aa{}bcbc", ropes.text(0));
        due.is("27: behind the end", 4, ropes.replaceBy(0, 2, 300, 1));
        due.is("27: text", "aa{}", ropes.text(0));
        due.is("27: by an empty one", 3, ropes.replaceBy(0, 0, 1, 2));
        due.is("27: text", "a{}", ropes.text(0));
        due.is("27: the other one stays", "{}", ropes.text(1));
        due.is("27: acts", 8, ropes.house(4));
        due.refusesEach(ropes, "27: at rope", Due.NO_PLACE, Due.NO_ROPES, rope -> ropes.replaceBy(rope, -1, 0, 1));
        due.refusesEach(ropes, "27: by rope", Due.NO_PLACE, Due.NO_ROPES, rope -> ropes.replaceBy(0, -1, 0, rope));
        wrongCuts("27: replaceBy", ropes, (from, to) -> ropes.replaceBy(0, from, to, 1));
        Due.fill(ropes, 0, 121);
        due.refuses(ropes, "27: too long", Due.TOO_LONG, () -> ropes.replaceBy(0, 7, 8, 0));
        due.is("27: just full", 240, ropes.replaceBy(0, 7, 9, 0));
    }

    private static void delete() {
        Signrope ropes = Due.ropesOf(69, 0, 0, 0);
        due.is("28: within", 4, ropes.delete(0, 1, 3));
        due.is("28: text", "aabc", ropes.text(0));
        due.is("28: nothing", 4, ropes.delete(0, 2, 2));
        due.is("28: behind the end", 3, ropes.delete(0, 3, 300));
        due.is("28: text", "aab", ropes.text(0));
        due.is("28: at the end", 3, ropes.delete(0, 3, Integer.MAX_VALUE));
        due.is("28: all", 0, ropes.delete(0, 0, 3));
        due.is("28: of an empty one", 0, ropes.delete(0, 0, 0));
        due.is("28: acts", 10, ropes.house(4));
        due.refusesEach(ropes, "28: at rope", Due.NO_PLACE, Due.NO_ROPES, rope -> ropes.delete(rope, 1, 0));
        ropes.begin(0, 69);
        wrongCuts("28: delete", ropes, (from, to) -> ropes.delete(0, from, to));
    }

    private static void deleteAt() {
        Signrope ropes = Due.ropesOf(69, 0, 0, 0);
        due.is("29: the first", 5, ropes.deleteAt(0, 0));
        due.is("29: within", 4, ropes.deleteAt(0, 2));
        due.is("29: the last", 3, ropes.deleteAt(0, 3));
        due.is("29: text", "bcb", ropes.text(0));
        due.is("29: acts", 7, ropes.house(4));
        due.refusesEach(ropes, "29: at rope", Due.NO_PLACE, Due.NO_ROPES, rope -> ropes.deleteAt(rope, 0));
        due.refusesEach(ropes, "29: at", Due.NO_PLACE, new int[] {-1, 3, Integer.MIN_VALUE, Integer.MAX_VALUE},
            at -> ropes.deleteAt(0, at));
        due.refuses(ropes, "29: of an empty one", Due.NO_PLACE, () -> ropes.deleteAt(1, 0));
    }

    private static void setSign() {
        Signrope ropes = Due.ropesOf(69, 0, 0, 0);
        due.is("30: the first", 97, ropes.setSign(0, 0, 255));
        due.is("30: again", 255, ropes.setSign(0, 0, 0));
        due.is("30: the last", 99, ropes.setSign(0, 5, 'z'));
        due.is("30: the same", 98, ropes.setSign(0, 1, 'b'));
        due.is("30: text", "\000bcabz", ropes.text(0));
        due.is("30: acts", 8, ropes.house(4));
        due.refusesEach(ropes, "30: at rope", Due.NO_PLACE, Due.NO_ROPES, rope -> ropes.setSign(rope, 0, 256));
        due.refusesEach(ropes, "30: at", Due.NO_PLACE, new int[] {-1, 6, Integer.MIN_VALUE, Integer.MAX_VALUE},
            at -> ropes.setSign(0, at, 256));
        due.refusesEach(ropes, "30: sign", Due.NO_ARGUMENT, Due.NO_CODES, code -> ropes.setSign(0, 0, code));
    }

    private static void turn() {
        Signrope ropes = Due.ropesOf(69, 2, 1, 0);
        due.is("31: even", 6, ropes.turn(0));
        due.is("31: text", "cbacba", ropes.text(0));
        ropes.sign(0, 'x');
        due.is("31: odd", 7, ropes.turn(0));
        due.is("31: text", "xabcabc", ropes.text(0));
        due.is("31: one sign", 1, ropes.turn(2));
        due.is("31: text", "a", ropes.text(2));
        due.is("31: none", 0, ropes.turn(3));
        due.is("31: acts", 9, ropes.house(4));
        due.refusesEach(ropes, "31: at rope", Due.NO_PLACE, Due.NO_ROPES, rope -> ropes.turn(rope));
    }

    private static void setLength() {
        Signrope ropes = Due.ropesOf(69, 0, 0, 0);
        due.is("32: shorter", 6, ropes.setLength(0, 2));
        due.is("32: text", "ab", ropes.text(0));
        due.is("32: longer", 2, ropes.setLength(0, 4));
        due.is("32: what went does not come back", "ab\000\000", ropes.text(0));
        due.is("32: the same", 4, ropes.setLength(0, 4));
        due.is("32: most", 4, ropes.setLength(0, 240));
        due.is("32: length", 240, ropes.length(0));
        due.is("32: the last sign", 0, ropes.at(0, 239));
        due.is("32: none", 240, ropes.setLength(0, 0));
        due.is("32: empty", "", ropes.text(0));
        due.is("32: acts", 9, ropes.house(4));
        due.refusesEach(ropes, "32: at rope", Due.NO_PLACE, Due.NO_ROPES, rope -> ropes.setLength(rope, -1));
        due.refusesEach(ropes, "32: length", Due.NO_ARGUMENT, new int[] {-1, 241, Integer.MIN_VALUE, Integer.MAX_VALUE},
            length -> ropes.setLength(0, length));
    }

    interface CallOfCut {
        Object answer(int from, int to);
    }

    private static void wrongCuts(String told, Signrope ropes, CallOfCut call) {
        int end = ropes.length(0);
        int[][] cuts = {{-1, 1}, {end + 1, end + 1}, {end + 1, end + 9}, {2, 1}, {0, -1}, {end, end - 1},
            {Integer.MIN_VALUE, Integer.MAX_VALUE}, {Integer.MAX_VALUE, Integer.MAX_VALUE}, {0, Integer.MIN_VALUE}};
        for (int[] cut : cuts) {
            due.refuses(ropes, told + " " + cut[0] + " " + cut[1], Due.NO_ARGUMENT, () -> call.answer(cut[0], cut[1]));
        }
    }
}
