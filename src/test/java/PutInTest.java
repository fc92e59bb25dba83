/** Promises 16 to 25: what is put in. */
public final class PutInTest {
    private static final Due due = new Due();

    public static void main(String[] args) {
        putWord();
        putSign();
        putNumber();
        putLong();
        putTruth();
        putRow();
        putRowPart();
        putNothing();
        putRope();
        putPart();
        due.end();
    }

    private static void putWord() {
        Signrope ropes = Due.ropesOf(69, 0, 0, 0);
        due.is("16: at the beginning", 8, ropes.putWord(0, 0, 60));
        due.is("16: within", 10, ropes.putWord(0, 3, 68));
        due.is("16: at the end", 11, ropes.putWord(0, 10, 66));
        due.is("16: the empty word", 11, ropes.putWord(0, 5, 0));
        due.is("16: text", "aaa{}bcabc ", ropes.text(0));
        due.is("16: into an empty one", 1, ropes.putWord(1, 0, 1));
        due.is("16: acts", 9, ropes.house(4));
        wrongPlaces("16: putWord", ropes, (rope, at) -> ropes.putWord(rope, at, 70));
        due.refusesEach(ropes, "16: putWord", Due.NO_ARGUMENT, Due.NO_WORDS, word -> ropes.putWord(0, 0, word));
        Due.fill(ropes, 0, 238);
        due.refuses(ropes, "16: too long", Due.TOO_LONG, () -> ropes.putWord(0, 0, 3));
        due.refuses(ropes, "16: wrong word ahead of too long", Due.NO_ARGUMENT, () -> ropes.putWord(0, 0, 70));
        due.refuses(ropes, "16: no place ahead of all", Due.NO_PLACE, () -> ropes.putWord(0, 239, 3));
        due.is("16: just full", 240, ropes.putWord(0, 238, 2));
    }

    private static void putSign() {
        Signrope ropes = Due.ropesOf(2, 0, 0, 0);
        due.is("17: at the beginning", 3, ropes.putSign(0, 0, 255));
        due.is("17: within", 4, ropes.putSign(0, 2, 0));
        due.is("17: at the end", 5, ropes.putSign(0, 4, 'z'));
        due.is("17: text", "\377a\000bz", ropes.text(0));
        due.is("17: acts", 7, ropes.house(4));
        wrongPlaces("17: putSign", ropes, (rope, at) -> ropes.putSign(rope, at, 256));
        due.refusesEach(ropes, "17: sign", Due.NO_ARGUMENT, Due.NO_CODES, code -> ropes.putSign(0, 0, code));
        Due.fill(ropes, 0, 240);
        due.refuses(ropes, "17: too long", Due.TOO_LONG, () -> ropes.putSign(0, 240, 1));
        due.refuses(ropes, "17: wrong sign ahead of too long", Due.NO_ARGUMENT, () -> ropes.putSign(0, 0, -1));
    }

    private static void putNumber() {
        Signrope ropes = Due.ropesOf(2, 0, 0, 0);
        due.is("18: within", 5, ropes.putNumber(0, 1, 120));
        due.is("18: at the beginning", 16, ropes.putNumber(0, 0, -2147483648));
        due.is("18: at the end", 17, ropes.putNumber(0, 16, 0));
        due.is("18: text", "-2147483648a120b0", ropes.text(0));
        due.is("18: acts", 7, ropes.house(4));
        wrongPlaces("18: putNumber", ropes, (rope, at) -> ropes.putNumber(rope, at, 5));
        Due.fill(ropes, 0, 238);
        due.refuses(ropes, "18: too long", Due.TOO_LONG, () -> ropes.putNumber(0, 3, 100));
        due.is("18: just full", 240, ropes.putNumber(0, 3, 99));
    }

    private static void putLong() {
        Signrope ropes = Due.ropesOf(2, 0, 0, 0);
        due.is("19: within", 12, ropes.putLong(0, 1, 1, -2147483648));
        due.is("19: at the beginning", 32, ropes.putLong(0, 0, -2147483648, 0));
        due.is("19: at the end", 34, ropes.putLong(0, 32, 0, -1));
        due.is("19: text", "-9223372036854775808a2147483648b-1", ropes.text(0));
        due.is("19: acts", 7, ropes.house(4));
        wrongPlaces("19: putLong", ropes, (rope, at) -> ropes.putLong(rope, at, 0, 5));
        Due.fill(ropes, 0, 230);
        due.refuses(ropes, "19: too long", Due.TOO_LONG, () -> ropes.putLong(0, 3, -1, 0));
        due.is("19: just full", 240, ropes.putLong(0, 3, 1, 0));
    }

    private static void putTruth() {
        Signrope ropes = Due.ropesOf(2, 0, 0, 0);
        due.is("20: within", 6, ropes.putTruth(0, 1, true));
        due.is("20: at the beginning", 11, ropes.putTruth(0, 0, false));
        due.is("20: at the end", 15, ropes.putTruth(0, 11, true));
        due.is("20: text", "falseatruebtrue", ropes.text(0));
        due.is("20: acts", 7, ropes.house(4));
        wrongPlaces("20: putTruth", ropes, (rope, at) -> ropes.putTruth(rope, at, true));
        Due.fill(ropes, 0, 236);
        due.refuses(ropes, "20: too long", Due.TOO_LONG, () -> ropes.putTruth(0, 0, false));
        due.is("20: just full", 240, ropes.putTruth(0, 0, true));
    }

    private static void putRow() {
        Signrope ropes = Due.ropesOf(2, 0, 0, 0);
        due.is("21: within", 6, ropes.putRow(0, 1, 67));
        due.is("21: at the beginning", 8, ropes.putRow(0, 0, 65));
        due.is("21: at the end", 9, ropes.putRow(0, 8, 66));
        due.is("21: empty", 9, ropes.putRow(0, 4, 0));
        due.is("21: text", "-1azzzzb ", ropes.text(0));
        due.is("21: the word stays", "zzzz", ropes.wordText(67));
        due.is("21: acts", 8, ropes.house(4));
        wrongPlaces("21: putRow", ropes, (rope, at) -> ropes.putRow(rope, at, 70));
        due.refusesEach(ropes, "21: putRow", Due.NO_ARGUMENT, Due.NO_WORDS, word -> ropes.putRow(0, 0, word));
        Due.fill(ropes, 0, 235);
        due.refuses(ropes, "21: too long", Due.TOO_LONG, () -> ropes.putRow(0, 0, 69));
    }

    private static void putRowPart() {
        Signrope ropes = Due.ropesOf(2, 0, 0, 0);
        due.is("22: within", 4, ropes.putRowPart(0, 1, 64, 1, 3));
        due.is("22: at the beginning", 10, ropes.putRowPart(0, 0, 69, 0, 6));
        due.is("22: at the end", 11, ropes.putRowPart(0, 10, 68, 0, 1));
        due.is("22: empty", 11, ropes.putRowPart(0, 4, 69, 6, 6));
        due.is("22: text", "abcabcarub{", ropes.text(0));
        due.is("22: acts", 8, ropes.house(4));
        wrongPlaces("22: putRowPart", ropes, (rope, at) -> ropes.putRowPart(rope, at, 70, 0, 0));
        due.refusesEach(ropes, "22: putRowPart", Due.NO_ARGUMENT, Due.NO_WORDS, word -> ropes.putRowPart(0, 0, word, 0, 0));
        for (int[] part : Due.NO_PARTS_OF_SIX) {
            due.refuses(ropes, "22: no part " + part[0] + " " + part[1], Due.NO_ARGUMENT,
                () -> ropes.putRowPart(0, 0, 69, part[0], part[1]));
        }
        Due.fill(ropes, 0, 239);
        due.refuses(ropes, "22: too long", Due.TOO_LONG, () -> ropes.putRowPart(0, 0, 69, 0, 2));
        due.refuses(ropes, "22: no part ahead of too long", Due.NO_ARGUMENT, () -> ropes.putRowPart(0, 0, 69, 0, 7));
        due.is("22: just full", 240, ropes.putRowPart(0, 0, 69, 2, 3));
    }

    private static void putNothing() {
        Signrope ropes = Due.ropesOf(2, 0, 0, 0);
        due.is("23: within", 6, ropes.putNothing(0, 1, true));
        due.is("23: at the beginning", 10, ropes.putNothing(0, 0, false));
        due.is("23: at the end", 14, ropes.putNothing(0, 10, true));
        due.is("23: text", "nullanullbnull", ropes.text(0));
        due.is("23: acts", 7, ropes.house(4));
        due.is("23: not refused", 0, ropes.house(2));
        wrongPlaces("23: putNothing", ropes, (rope, at) -> ropes.putNothing(rope, at, true));
        Due.fill(ropes, 0, 237);
        due.refuses(ropes, "23: too long", Due.TOO_LONG, () -> ropes.putNothing(0, 0, true));
    }

    private static void putRope() {
        Signrope ropes = Due.ropesOf(3, 68, 0, 0);
        due.is("24: within", 5, ropes.putRope(0, 1, 1));
        due.is("24: itself", 10, ropes.putRope(0, 2, 0));
        due.is("24: text", "a{a{}bc}bc", ropes.text(0));
        due.is("24: an empty one", 10, ropes.putRope(0, 10, 2));
        due.is("24: the other one stays", "{}", ropes.text(1));
        due.is("24: acts", 7, ropes.house(4));
        wrongPlaces("24: putRope", ropes, (rope, at) -> ropes.putRope(rope, at, 1));
        due.refusesEach(ropes, "24: putRope", Due.NO_PLACE, Due.NO_ROPES, other -> ropes.putRope(0, 0, other));
        Due.fill(ropes, 0, 121);
        due.refuses(ropes, "24: too long", Due.TOO_LONG, () -> ropes.putRope(0, 60, 0));
        Due.fill(ropes, 1, 120);
        due.is("24: just full", 240, ropes.putRope(1, 120, 1));
    }

    private static void putPart() {
        Signrope ropes = Due.ropesOf(69, 68, 0, 0);
        due.is("25: within", 5, ropes.putPart(1, 1, 0, 2, 5));
        due.is("25: of itself", 9, ropes.putPart(1, 2, 1, 0, 4));
        due.is("25: text", "{c{cabab}", ropes.text(1));
        due.is("25: empty part", 9, ropes.putPart(1, 9, 0, 6, 6));
        due.is("25: acts", 7, ropes.house(4));
        wrongPlaces("25: putPart", ropes, (rope, at) -> ropes.putPart(rope, at, 0, 5, 2));
        due.refusesEach(ropes, "25: putPart", Due.NO_PLACE, Due.NO_ROPES, other -> ropes.putPart(0, 0, other, 5, 2));
        for (int[] part : Due.NO_PARTS_OF_SIX) {
            due.refuses(ropes, "25: no part " + part[0] + " " + part[1], Due.NO_ARGUMENT,
                () -> ropes.putPart(1, 0, 0, part[0], part[1]));
        }
        Due.fill(ropes, 1, 239);
        due.refuses(ropes, "25: too long", Due.TOO_LONG, () -> ropes.putPart(1, 5, 0, 0, 2));
        due.refuses(ropes, "25: no part ahead of too long", Due.NO_ARGUMENT, () -> ropes.putPart(1, 0, 0, 0, 7));
        due.is("25: just full", 240, ropes.putPart(1, 239, 0, 5, 6));
    }

    interface CallAt {
        Object answer(int rope, int at);
    }

    private static void wrongPlaces(String told, Signrope ropes, CallAt call) {
        for (int rope : new int[] {-1, 4, Integer.MIN_VALUE, Integer.MAX_VALUE}) {
            due.refuses(ropes, told + " at rope " + rope, Due.NO_PLACE, () -> call.answer(rope, 0));
        }
        for (int at : new int[] {-1, ropes.length(0) + 1, Integer.MIN_VALUE, Integer.MAX_VALUE}) {
            due.refuses(ropes, told + " at place " + at, Due.NO_PLACE, () -> call.answer(0, at));
        }
    }
}
