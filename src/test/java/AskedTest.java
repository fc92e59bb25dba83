/** Promises 33 to 44: what is asked. */
public final class AskedTest {
    private static final Due due = new Due();

    public static void main(String[] args) {
        textAndLength();
        at();
        part();
        rest();
        find();
        findFrom();
        nothing();
        compare();
        hash();
        wordText();
        due.end();
    }

    private static void textAndLength() {
        Signrope ropes = Due.ropesOf(69, 0, 68, 1);
        due.is("33: text", "abcabc", ropes.text(0));
        due.is("33: empty", "", ropes.text(1));
        due.is("33: the last rope", "a", ropes.text(3));
        due.is("34: length", 6, ropes.length(0));
        due.is("34: empty", 0, ropes.length(1));
        due.is("34: the last rope", 1, ropes.length(3));
        ropes.begin(0, 0);
        for (int code = 0; code < 240; code++) {
            ropes.sign(0, code + 16);
        }
        String text = ropes.text(0);
        for (int place = 0; place < 240; place++) {
            due.is("33: each sign", place + 16, (int) text.charAt(place));
        }
        due.is("34: a full one", 240, ropes.length(0));
        due.refusesEach(ropes, "33: text of", Due.NO_PLACE, Due.NO_ROPES, rope -> ropes.text(rope));
        due.refusesEach(ropes, "34: length of", Due.NO_PLACE, Due.NO_ROPES, rope -> ropes.length(rope));
    }

    private static void at() {
        Signrope ropes = Due.ropesOf(69, 0, 0, 0);
        ropes.setSign(0, 5, 255);
        due.is("35: the first", 97, ropes.at(0, 0));
        due.is("35: within", 99, ropes.at(0, 2));
        due.is("35: the last", 255, ropes.at(0, 5));
        due.refusesEach(ropes, "35: of rope", Due.NO_PLACE, Due.NO_ROPES, rope -> ropes.at(rope, 0));
        due.refusesEach(ropes, "35: at", Due.NO_PLACE, new int[] {-1, 6, Integer.MIN_VALUE, Integer.MAX_VALUE},
            place -> ropes.at(0, place));
        due.refuses(ropes, "35: of an empty one", Due.NO_PLACE, () -> ropes.at(1, 0));
    }

    private static void part() {
        Signrope ropes = Due.ropesOf(69, 0, 0, 0);
        due.is("36: within", "bca", ropes.part(0, 1, 4));
        due.is("36: all", "abcabc", ropes.part(0, 0, 6));
        due.is("36: none", "", ropes.part(0, 3, 3));
        due.is("36: none at the end", "", ropes.part(0, 6, 6));
        due.is("36: of an empty one", "", ropes.part(1, 0, 0));
        due.refusesEach(ropes, "36: of rope", Due.NO_PLACE, Due.NO_ROPES, rope -> ropes.part(rope, 1, 0));
        for (int[] part : Due.NO_PARTS_OF_SIX) {
            due.refuses(ropes, "36: no part " + part[0] + " " + part[1], Due.NO_ARGUMENT,
                () -> ropes.part(0, part[0], part[1]));
        }
    }

    private static void rest() {
        Signrope ropes = Due.ropesOf(69, 0, 0, 0);
        due.is("37: within", "bc", ropes.rest(0, 4));
        due.is("37: all", "abcabc", ropes.rest(0, 0));
        due.is("37: none", "", ropes.rest(0, 6));
        due.is("37: of an empty one", "", ropes.rest(1, 0));
        due.refusesEach(ropes, "37: of rope", Due.NO_PLACE, Due.NO_ROPES, rope -> ropes.rest(rope, -1));
        due.refusesEach(ropes, "37: from", Due.NO_ARGUMENT, new int[] {-1, 7, Integer.MIN_VALUE, Integer.MAX_VALUE},
            from -> ropes.rest(0, from));
    }

    private static void find() {
        Signrope ropes = Due.ropesOf(69, 0, 62, 60);
        due.is("38: first", 0, ropes.find(0, 2, false));
        due.is("38: last", 3, ropes.find(0, 2, true));
        due.is("38: first within", 1, ropes.find(0, 5, false));
        due.is("38: the whole text", 0, ropes.find(0, 69, true));
        due.is("38: none", -1, ropes.find(0, 66, false));
        due.is("38: none last", -1, ropes.find(0, 66, true));
        due.is("38: a longer word", -1, ropes.find(2, 69, false));
        due.is("38: a longer word last", -1, ropes.find(2, 69, true));
        due.is("38: only its beginning at the end", -1, ropes.find(3, 2, false));
        due.is("38: the empty word first", 0, ropes.find(0, 0, false));
        due.is("38: the empty word last", 6, ropes.find(0, 0, true));
        due.is("38: the empty word in an empty text", 0, ropes.find(1, 0, true));
        due.is("38: a word in an empty text", -1, ropes.find(1, 1, false));
        ropes.word(2, 62);
        due.is("38: lying over itself", 4, ropes.find(2, 62, true));
        ropes.delete(2, 0, 2);
        due.is("38: lying over itself", 2, ropes.find(2, 62, true));
        due.is("38: no act", 6, ropes.house(4));
        due.refusesEach(ropes, "38: of rope", Due.NO_PLACE, Due.NO_ROPES, rope -> ropes.find(rope, 70, true));
        due.refusesEach(ropes, "38: word", Due.NO_ARGUMENT, Due.NO_WORDS, word -> ropes.find(0, word, false));
    }

    private static void findFrom() {
        Signrope ropes = Due.ropesOf(69, 0, 0, 0);
        int[][] abFirst = {{Integer.MIN_VALUE, 0}, {-1, 0}, {0, 0}, {1, 3}, {3, 3}, {4, -1}, {6, -1}, {9, -1}};
        for (int[] row : abFirst) {
            due.is("39: ab first from " + row[0], row[1], ropes.findFrom(0, 2, row[0], false));
        }
        int[][] abLast = {{Integer.MIN_VALUE, -1}, {-1, -1}, {0, 0}, {2, 0}, {3, 3}, {4, 3}, {Integer.MAX_VALUE, 3}};
        for (int[] row : abLast) {
            due.is("39: ab last from " + row[0], row[1], ropes.findFrom(0, 2, row[0], true));
        }
        int[][] emptyFirst = {{Integer.MIN_VALUE, 0}, {-1, 0}, {2, 2}, {6, 6}, {7, 6}, {Integer.MAX_VALUE, 6}};
        for (int[] row : emptyFirst) {
            due.is("39: \"\" first from " + row[0], row[1], ropes.findFrom(0, 0, row[0], false));
        }
        int[][] emptyLast = {{Integer.MIN_VALUE, -1}, {-1, -1}, {0, 0}, {2, 2}, {6, 6}, {Integer.MAX_VALUE, 6}};
        for (int[] row : emptyLast) {
            due.is("39: \"\" last from " + row[0], row[1], ropes.findFrom(0, 0, row[0], true));
        }
        due.is("39: a longer word", -1, ropes.findFrom(1, 3, 5, true));
        due.is("39: a longer word", -1, ropes.findFrom(1, 3, 5, false));
        due.refusesEach(ropes, "39: of rope", Due.NO_PLACE, Due.NO_ROPES, rope -> ropes.findFrom(rope, 70, 0, true));
        due.refusesEach(ropes, "39: word", Due.NO_ARGUMENT, Due.NO_WORDS, word -> ropes.findFrom(0, word, 0, false));
    }

    private static void nothing() {
        Signrope ropes = Due.ropesOf(69, 0, 0, 0);
        due.is("40: findNothing", -9, ropes.findNothing(0, true));
        due.is("40: findNothing", -9, ropes.findNothing(3, false));
        due.is("40: told twice", 2, ropes.house(2));
        due.is("42: compareNothing", -9, ropes.compareNothing(0));
        due.is("42: compareNothing", -9, ropes.compareNothing(3));
        due.is("42: told four times", 4, ropes.house(2));
        due.is("40, 42: nothing else changes", "abcabc 4", ropes.text(0) + " " + ropes.house(4));
        due.refusesEach(ropes, "40: of rope", Due.NO_PLACE, Due.NO_ROPES, rope -> ropes.findNothing(rope, true));
        due.refusesEach(ropes, "42: of rope", Due.NO_PLACE, Due.NO_ROPES, rope -> ropes.compareNothing(rope));
    }

    private static void compare() {
        Signrope ropes = Due.ropesOf(2, 3, 0, 60);
        due.is("41: the beginning of it", -1, ropes.compare(0, 1));
        due.is("41: longer", 1, ropes.compare(1, 0));
        due.is("41: empty", -1, ropes.compare(2, 3));
        due.is("41: to an empty one", 1, ropes.compare(3, 2));
        due.is("41: a greater sign", 1, ropes.compare(0, 3));
        due.is("41: the first sign that differs, not the length", -1, ropes.compare(3, 1));
        due.is("41: itself", 0, ropes.compare(1, 1));
        ropes.beginAs(2, 1);
        due.is("41: the same", 0, ropes.compare(1, 2));
        ropes.setSign(2, 0, 255);
        due.is("41: 255 is greater", 1, ropes.compare(2, 1));
        ropes.setSign(2, 0, 0);
        due.is("41: 0 is less", -1, ropes.compare(2, 1));
        due.refusesEach(ropes, "41: of rope", Due.NO_PLACE, Due.NO_ROPES, rope -> ropes.compare(rope, 0));
        due.refusesEach(ropes, "41: to rope", Due.NO_PLACE, Due.NO_ROPES, rope -> ropes.compare(0, rope));
    }

    private static void hash() {
        Signrope ropes = Due.ropesOf(0, 2, 0, 0);
        due.is("43: of an empty one", 0, ropes.hash(0));
        due.is("43: hash", 31 * 97 + 98, ropes.hash(1));
        for (int k = 0; k < 240; k++) {
            ropes.sign(2, 255 - k);
        }
        due.is("43: wrapping around", ropes.text(2).hashCode(), ropes.hash(2));
        due.refusesEach(ropes, "43: of rope", Due.NO_PLACE, Due.NO_ROPES, rope -> ropes.hash(rope));
    }

    private static void wordText() {
        Signrope ropes = new Signrope();
        String[] first = {"", "a", "ab", "abc", "", "b", "bc", "bcd", "", "c", "cd", "cde"};
        for (int word = 0; word < first.length; word++) {
            due.is("44: word " + word, first[word], ropes.wordText(word));
        }
        due.is("44: word 57", "o", ropes.wordText(57));
        due.is("44: word 59", "opq", ropes.wordText(59));
        String[] named = {"aa", "aba", "abab", "null", "true", "-1", " ", "zzzz", "{}", "abcabc"};
        for (int k = 0; k < named.length; k++) {
            due.is("44: word " + (60 + k), named[k], ropes.wordText(60 + k));
        }
        due.is("44: no act", 0, ropes.house(4));
        due.refusesEach(ropes, "44: word", Due.NO_ARGUMENT, Due.NO_WORDS, word -> ropes.wordText(word));
    }
}
