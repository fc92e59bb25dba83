/** Promises 5 to 15: what is laid behind. */
public final class LaidBehindTest {
    private static final Due due = new Due();

    public static void main(String[] args) {
        word();
        sign();
        point();
        number();
        longNumber();
        truth();
        row();
        rowPart();
        nothing();
        rope();
        ropePart();
        due.end();
    }

    private static void word() {
        Signrope ropes = new Signrope();
        due.is("5: word", 3, ropes.word(0, 3));
        due.is("5: word behind it", 6, ropes.word(0, 11));
        due.is("5: empty word", 6, ropes.word(0, 0));
        due.is("5: text", "abccde", ropes.text(0));
        due.is("5: acts", 3, ropes.house(4));
        due.refusesEach(ropes, "5: word", Due.NO_PLACE, Due.NO_ROPES, rope -> ropes.word(rope, 70));
        due.refusesEach(ropes, "5: word", Due.NO_ARGUMENT, Due.NO_WORDS, word -> ropes.word(0, word));
        Due.fill(ropes, 0, 238);
        due.refuses(ropes, "5: wrong word ahead of too long", Due.NO_ARGUMENT, () -> ropes.word(0, 70));
        due.refuses(ropes, "5: too long", Due.TOO_LONG, () -> ropes.word(0, 3));
        due.is("5: just full", 240, ropes.word(0, 2));
        due.is("5: nothing to a full one", 240, ropes.word(0, 0));
        due.refuses(ropes, "5: full", Due.TOO_LONG, () -> ropes.word(0, 1));
    }

    private static void sign() {
        Signrope ropes = new Signrope();
        due.is("6: sign", 1, ropes.sign(0, 0));
        due.is("6: sign", 2, ropes.sign(0, 255));
        due.is("6: sign", 3, ropes.sign(0, 'x'));
        due.is("6: text", "\000\377x", ropes.text(0));
        due.is("6: acts", 3, ropes.house(4));
        due.refusesEach(ropes, "6: sign", Due.NO_PLACE, Due.NO_ROPES, rope -> ropes.sign(rope, 256));
        due.refusesEach(ropes, "6: sign", Due.NO_ARGUMENT, Due.NO_CODES, code -> ropes.sign(0, code));
        Due.fill(ropes, 0, 240);
        due.refuses(ropes, "6: too long", Due.TOO_LONG, () -> ropes.sign(0, 0));
        due.refuses(ropes, "6: wrong sign ahead of too long", Due.NO_ARGUMENT, () -> ropes.sign(0, 256));
    }

    private static void point() {
        Signrope ropes = new Signrope();
        due.is("7: point", 1, ropes.point(0, 0));
        due.is("7: point", 2, ropes.point(0, 127));
        due.is("7: point", 3, ropes.point(0, 'A'));
        due.is("7: text", "\000\177A", ropes.text(0));
        due.is("7: acts", 3, ropes.house(4));
        due.refusesEach(ropes, "7: point", Due.NO_PLACE, Due.NO_ROPES, rope -> ropes.point(rope, 128));
        due.refusesEach(ropes, "7: point", Due.NO_ARGUMENT, new int[] {-1, 128, 255, Integer.MIN_VALUE, Integer.MAX_VALUE},
            code -> ropes.point(0, code));
        Due.fill(ropes, 0, 240);
        due.refuses(ropes, "7: too long", Due.TOO_LONG, () -> ropes.point(0, 0));
        due.refuses(ropes, "7: wrong code ahead of too long", Due.NO_ARGUMENT, () -> ropes.point(0, 128));
    }

    private static void number() {
        Signrope ropes = new Signrope();
        for (int number : new int[] {0, 1, -1, 9, 10, -10, 99, 100, 1000000000, 2147483647, -2147483648}) {
            ropes.begin(0, 1);
            due.is("8: number " + number, 1 + Integer.toString(number).length(), ropes.number(0, number));
            due.is("8: text", "a" + number, ropes.text(0));
        }
        due.is("8: acts", 22, ropes.house(4));
        due.refusesEach(ropes, "8: number", Due.NO_PLACE, Due.NO_ROPES, rope -> ropes.number(rope, 0));
        Due.fill(ropes, 0, 238);
        due.refuses(ropes, "8: too long", Due.TOO_LONG, () -> ropes.number(0, -10));
        due.is("8: just full", 240, ropes.number(0, -1));
        due.refuses(ropes, "8: full", Due.TOO_LONG, () -> ropes.number(0, 0));
    }

    private static void longNumber() {
        Signrope ropes = new Signrope();
        int[][] longs = {{0, 0}, {0, -1}, {0, 1}, {1, 0}, {-1, 0}, {-1, -1}, {1, -2147483648}, {2147483647, 2147483647},
            {-2147483648, -1}, {-2147483648, 0}, {-2147483648, 2147483647}, {5, 7}};
        String[] texts = {"0", "-1", "1", "4294967296", "-4294967296", "-4294967297", "2147483648",
            "9223372034707292159", "9223372036854775807", "-9223372036854775808", "-9223372034707292161",
            "21474836487"};
        for (int k = 0; k < longs.length; k++) {
            ropes.begin(0, 1);
            due.is("9: longNumber " + texts[k], 1 + texts[k].length(), ropes.longNumber(0, longs[k][0], longs[k][1]));
            due.is("9: text", "a" + texts[k], ropes.text(0));
        }
        due.is("9: acts", 24, ropes.house(4));
        due.refusesEach(ropes, "9: longNumber", Due.NO_PLACE, Due.NO_ROPES, rope -> ropes.longNumber(rope, 0, 0));
        Due.fill(ropes, 0, 220);
        due.is("9: just full", 240, ropes.longNumber(0, -2147483648, 0));
        due.refuses(ropes, "9: full", Due.TOO_LONG, () -> ropes.longNumber(0, 0, 0));
        Due.fill(ropes, 0, 221);
        due.refuses(ropes, "9: too long", Due.TOO_LONG, () -> ropes.longNumber(0, -2147483648, 0));
    }

    private static void truth() {
        Signrope ropes = new Signrope();
        due.is("10: truth", 4, ropes.truth(0, true));
        due.is("10: truth", 9, ropes.truth(0, false));
        due.is("10: text", "truefalse", ropes.text(0));
        due.is("10: acts", 2, ropes.house(4));
        due.refusesEach(ropes, "10: truth", Due.NO_PLACE, Due.NO_ROPES, rope -> ropes.truth(rope, true));
        Due.fill(ropes, 0, 236);
        due.refuses(ropes, "10: too long", Due.TOO_LONG, () -> ropes.truth(0, false));
        due.is("10: just full", 240, ropes.truth(0, true));
    }

    private static void row() {
        Signrope ropes = new Signrope();
        due.is("11: row", 6, ropes.row(0, 69));
        due.is("11: row again", 12, ropes.row(0, 69));
        due.is("11: empty row", 12, ropes.row(0, 4));
        due.is("11: text", "abcabcabcabc", ropes.text(0));
        due.is("11: acts", 3, ropes.house(4));
        due.refusesEach(ropes, "11: row", Due.NO_PLACE, Due.NO_ROPES, rope -> ropes.row(rope, 70));
        due.refusesEach(ropes, "11: row", Due.NO_ARGUMENT, Due.NO_WORDS, word -> ropes.row(0, word));
        Due.fill(ropes, 0, 236);
        due.refuses(ropes, "11: too long", Due.TOO_LONG, () -> ropes.row(0, 69));
        due.is("11: just full", 240, ropes.row(0, 67));
    }

    private static void rowPart() {
        Signrope ropes = new Signrope();
        due.is("12: rowPart", 3, ropes.rowPart(0, 63, 0, 3));
        due.is("12: rowPart", 5, ropes.rowPart(0, 69, 1, 3));
        due.is("12: rowPart to the end", 6, ropes.rowPart(0, 68, 1, 2));
        due.is("12: empty part", 6, ropes.rowPart(0, 69, 6, 6));
        due.is("12: part of the empty word", 6, ropes.rowPart(0, 0, 0, 0));
        due.is("12: text", "nulbc}", ropes.text(0));
        due.is("12: acts", 5, ropes.house(4));
        due.refusesEach(ropes, "12: rowPart", Due.NO_PLACE, Due.NO_ROPES, rope -> ropes.rowPart(rope, 70, 0, 0));
        due.refusesEach(ropes, "12: rowPart", Due.NO_ARGUMENT, Due.NO_WORDS, word -> ropes.rowPart(0, word, 0, 0));
        for (int[] part : Due.NO_PARTS_OF_SIX) {
            due.refuses(ropes, "12: no part " + part[0] + " " + part[1], Due.NO_ARGUMENT,
                () -> ropes.rowPart(0, 69, part[0], part[1]));
        }
        Due.fill(ropes, 0, 239);
        due.refuses(ropes, "12: too long", Due.TOO_LONG, () -> ropes.rowPart(0, 69, 2, 4));
        due.is("12: just full", 240, ropes.rowPart(0, 69, 2, 3));
        due.refuses(ropes, "12: no part ahead of too long", Due.NO_ARGUMENT, () -> ropes.rowPart(0, 69, 0, 7));
    }

    private static void nothing() {
        Signrope ropes = new Signrope();
        due.is("13: nothing", 4, ropes.nothing(0, true));
        due.is("13: nothing", 8, ropes.nothing(0, false));
        due.is("13: text", "nullnull", ropes.text(0));
        due.is("13: acts", 2, ropes.house(4));
        due.is("13: not refused", 0, ropes.house(2));
        due.refusesEach(ropes, "13: nothing", Due.NO_PLACE, Due.NO_ROPES, rope -> ropes.nothing(rope, true));
        Due.fill(ropes, 0, 237);
        due.refuses(ropes, "13: too long", Due.TOO_LONG, () -> ropes.nothing(0, true));
        due.refuses(ropes, "13: too long", Due.TOO_LONG, () -> ropes.nothing(0, false));
    }

    private static void rope() {
        Signrope ropes = Due.ropesOf(3, 5, 0, 0);
        due.is("14: rope", 4, ropes.rope(0, 1));
        due.is("14: itself", 8, ropes.rope(0, 0));
        due.is("14: an empty one", 8, ropes.rope(0, 2));
        due.is("14: text", "abcbabcb", ropes.text(0));
        due.is("14: the other one stays", "b", ropes.text(1));
        due.is("14: acts", 7, ropes.house(4));
        due.refusesEach(ropes, "14: rope", Due.NO_PLACE, Due.NO_ROPES, rope -> ropes.rope(rope, 0));
        due.refusesEach(ropes, "14: other", Due.NO_PLACE, Due.NO_ROPES, other -> ropes.rope(0, other));
        Due.fill(ropes, 0, 121);
        due.refuses(ropes, "14: too long", Due.TOO_LONG, () -> ropes.rope(0, 0));
        Due.fill(ropes, 1, 120);
        due.is("14: just full", 240, ropes.rope(1, 1));
    }

    private static void ropePart() {
        Signrope ropes = Due.ropesOf(69, 3, 0, 0);
        due.is("15: ropePart", 5, ropes.ropePart(1, 0, 1, 3));
        due.is("15: of itself", 9, ropes.ropePart(1, 1, 0, 4));
        due.is("15: empty part", 9, ropes.ropePart(1, 0, 6, 6));
        due.is("15: part of an empty one", 9, ropes.ropePart(1, 2, 0, 0));
        due.is("15: text", "abcbcabcb", ropes.text(1));
        due.is("15: acts", 8, ropes.house(4));
        due.refusesEach(ropes, "15: ropePart", Due.NO_PLACE, Due.NO_ROPES, rope -> ropes.ropePart(rope, 0, 5, 2));
        due.refusesEach(ropes, "15: other", Due.NO_PLACE, Due.NO_ROPES, other -> ropes.ropePart(0, other, 5, 2));
        for (int[] part : Due.NO_PARTS_OF_SIX) {
            due.refuses(ropes, "15: no part " + part[0] + " " + part[1], Due.NO_ARGUMENT,
                () -> ropes.ropePart(1, 0, part[0], part[1]));
        }
        Due.fill(ropes, 1, 239);
        due.refuses(ropes, "15: too long", Due.TOO_LONG, () -> ropes.ropePart(1, 0, 0, 2));
        due.refuses(ropes, "15: no part ahead of too long", Due.NO_ARGUMENT, () -> ropes.ropePart(1, 0, 0, 7));
        due.is("15: just full", 240, ropes.ropePart(1, 0, 5, 6));
    }
}
