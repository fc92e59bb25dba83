/** Boundary cases of promises 5 to 15: what is laid behind. */
final class EdgesOfLaidBehind {
    private static final String TOO_LONG = "Throws `IllegalStateException` if its TEXT would be too long";
    private static final int[] NO_POINTS = {-1, 128, 255, 256, Edges.LEAST, Edges.GREATEST};

    private final Edges edges;

    EdgesOfLaidBehind(Edges edges) {
        this.edges = edges;
    }

    void all() {
        word();
        sign();
        point();
        number();
        longNumber();
        truth();
        row();
        rowPart();
        nothing();
        rope();
        ropePart();
    }

    private void word() {
        edges.noRope(5, (ropes, rope) -> ropes.word(rope, 1));
        edges.noWord(5, (ropes, word) -> ropes.word(0, word));
        edges.test(5, TOO_LONG, () -> {
            edges.layingStopsAtFull("", ropes -> ropes.word(0, 0));
            edges.layingStopsAtFull("a", ropes -> ropes.word(0, 1));
            edges.layingStopsAtFull("abc", ropes -> ropes.word(0, 3));
            edges.layingStopsAtFull("null", ropes -> ropes.word(0, 63));
            edges.layingStopsAtFull("abcabc", ropes -> ropes.word(0, 69));
        });
    }

    private void sign() {
        edges.noRope(6, (ropes, rope) -> ropes.sign(rope, 1));
        edges.test(6, "Throws `IllegalArgumentException` if code is not 0 to 255", () -> {
            Signrope ropes = new Signrope();
            edges.is("the least", 1, ropes.sign(0, 0));
            edges.is("the greatest", 2, ropes.sign(0, 255));
            edges.is("text", "\000\377", ropes.text(0));
            edges.refusesEach(Due.NO_ARGUMENT, Due.NO_CODES, (in, code) -> in.sign(0, code));
        });
        edges.test(6, TOO_LONG, () -> {
            edges.layingStopsAtFull("\000", ropes -> ropes.sign(0, 0));
            edges.layingStopsAtFull("\377", ropes -> ropes.sign(0, 255));
        });
    }

    private void point() {
        edges.noRope(7, (ropes, rope) -> ropes.point(rope, 1));
        edges.test(7, "Throws `IllegalArgumentException` if code is not 0 to 127", () -> {
            Signrope ropes = new Signrope();
            edges.is("the least", 1, ropes.point(0, 0));
            edges.is("the greatest", 2, ropes.point(0, 127));
            edges.is("text", "\000\177", ropes.text(0));
            edges.refusesEach(Due.NO_ARGUMENT, NO_POINTS, (in, code) -> in.point(0, code));
        });
        edges.test(7, TOO_LONG, () -> {
            edges.layingStopsAtFull("\000", ropes -> ropes.point(0, 0));
            edges.layingStopsAtFull("\177", ropes -> ropes.point(0, 127));
        });
    }

    private void number() {
        edges.noRope(8, (ropes, rope) -> ropes.number(rope, 0));
        edges.test(8, TOO_LONG, () -> {
            for (int number : new int[] {0, 9, -1, 10, -10, 999999999, Edges.GREATEST, Edges.LEAST}) {
                edges.layingStopsAtFull(String.valueOf(number), ropes -> ropes.number(0, number));
            }
        });
    }

    private void longNumber() {
        edges.noRope(9, (ropes, rope) -> ropes.longNumber(rope, 0, 0));
        edges.test(9, TOO_LONG, () -> {
            edges.layingStopsAtFull("0", ropes -> ropes.longNumber(0, 0, 0));
            edges.layingStopsAtFull("-1", ropes -> ropes.longNumber(0, 0, -1));
            edges.layingStopsAtFull("4294967296", ropes -> ropes.longNumber(0, 1, 0));
            edges.layingStopsAtFull("9223372036854775807", ropes -> ropes.longNumber(0, Edges.LEAST, -1));
            edges.layingStopsAtFull("-9223372036854775808", ropes -> ropes.longNumber(0, Edges.LEAST, 0));
        });
    }

    private void truth() {
        edges.noRope(10, (ropes, rope) -> ropes.truth(rope, true));
        edges.test(10, TOO_LONG, () -> {
            edges.layingStopsAtFull("true", ropes -> ropes.truth(0, true));
            edges.layingStopsAtFull("false", ropes -> ropes.truth(0, false));
        });
    }

    private void row() {
        edges.test(11, "as a row that is changed right behind that, are laid behind", () -> {
            Signrope ropes = new Signrope();
            edges.is("empty", 0, ropes.row(0, 0));
            edges.is("first", 6, ropes.row(0, 69));
            ropes.setSign(0, 0, 'x');
            edges.is("the word is as it was", "abcabc", ropes.wordText(69));
            edges.is("again", 12, ropes.row(0, 69));
            edges.is("a word of letters", 15, ropes.row(0, 3));
            edges.is("what was laid is as it was", "xbcabcabcabcabc", ropes.text(0));
        });
        edges.noRope(11, (ropes, rope) -> ropes.row(rope, 1));
        edges.noWord(11, (ropes, word) -> ropes.row(0, word));
        edges.test(11, TOO_LONG, () -> {
            edges.layingStopsAtFull("", ropes -> ropes.row(0, 56));
            edges.layingStopsAtFull(" ", ropes -> ropes.row(0, 66));
            edges.layingStopsAtFull("zzzz", ropes -> ropes.row(0, 67));
            edges.layingStopsAtFull("abcabc", ropes -> ropes.row(0, 69));
        });
    }

    private void rowPart() {
        edges.test(12, "A PART of the signs of a WORD, as a row, is laid behind", () -> {
            Signrope ropes = Due.ropesOf(60, 0, 0, 0);
            edges.is("all", 8, ropes.rowPart(0, 69, 0, 6));
            edges.is("none at 0", 8, ropes.rowPart(0, 69, 0, 0));
            edges.is("none at the end", 8, ropes.rowPart(0, 69, 6, 6));
            edges.is("none of the empty word", 8, ropes.rowPart(0, 0, 0, 0));
            edges.is("the last sign", 9, ropes.rowPart(0, 68, 1, 2));
            edges.is("text", "aaabcabc}", ropes.text(0));
        });
        edges.noRope(12, (ropes, rope) -> ropes.rowPart(rope, 1, 0, 1));
        edges.test(12, "Throws `IllegalArgumentException` if word is no number of a WORD, or from and to tell no PART of it",
            () -> {
                edges.refusesEach(Due.NO_ARGUMENT, Due.NO_WORDS, (ropes, word) -> ropes.rowPart(0, word, 0, 0));
                edges.refusesEach(Due.NO_ARGUMENT, new int[] {-1, 4, Edges.LEAST, Edges.GREATEST},
                    (ropes, from) -> ropes.rowPart(0, 3, from, 3));
                edges.refusesEach(Due.NO_ARGUMENT, new int[] {1, -1, 4, Edges.LEAST, Edges.GREATEST},
                    (ropes, to) -> ropes.rowPart(0, 3, 2, to));
                edges.refusesEach(Due.NO_ARGUMENT, new int[] {-1, 1}, (ropes, to) -> ropes.rowPart(0, 0, 0, to));
            });
        edges.test(12, TOO_LONG, () -> {
            edges.layingStopsAtFull("", ropes -> ropes.rowPart(0, 69, 3, 3));
            edges.layingStopsAtFull("b", ropes -> ropes.rowPart(0, 69, 1, 2));
            edges.layingStopsAtFull("cabc", ropes -> ropes.rowPart(0, 69, 2, 6));
            edges.layingStopsAtFull("abcabc", ropes -> ropes.rowPart(0, 69, 0, 6));
        });
    }

    private void nothing() {
        edges.test(13, "Nothing is laid behind: that is \"null\"", () -> {
            Signrope ropes = new Signrope();
            edges.is("to an empty one", 4, ropes.nothing(3, true));
            edges.is("text", "null", ropes.text(3));
            edges.is("is not refused", 0, ropes.house(2));
            edges.is("is an act", 1, ropes.house(4));
        });
        edges.test(13, "(both are alike)", () -> {
            Signrope ropes = new Signrope();
            edges.is("a row of signs", 4, ropes.nothing(0, true));
            edges.is("a text", 4, ropes.nothing(1, false));
            edges.is("alike", 0, ropes.compare(0, 1));
        });
        edges.noRope(13, (ropes, rope) -> ropes.nothing(rope, true));
        edges.test(13, TOO_LONG, () -> {
            edges.layingStopsAtFull("null", ropes -> ropes.nothing(0, true));
            edges.layingStopsAtFull("null", ropes -> ropes.nothing(0, false));
        });
    }

    private void rope() {
        edges.test(14, "whose TEXT (may be the same)", () -> {
            Signrope ropes = Edges.words();
            edges.is("itself", 12, ropes.rope(0, 0));
            edges.is("twice", "abcabcabcabc", ropes.text(0));
            edges.is("an empty one itself", 0, ropes.rope(2, 2));
            Due.fill(ropes, 1, 120);
            edges.is("half of a full one itself", 240, ropes.rope(1, 1));
            edges.is("twice", Due.filledText(240), ropes.text(1));
        });
        edges.noRopeOfBoth(14, (ropes, rope) -> ropes.rope(rope, 3), (ropes, other) -> ropes.rope(0, other));
        edges.test(14, TOO_LONG, () -> {
            edges.layingStopsAtFull("", ropes -> ropes.rope(0, 3));
            edges.layingStopsAtFull("a", ropes -> ropes.rope(0, 2));
            edges.layingStopsAtFull("abcabc", ropes -> ropes.rope(0, 1));
            Signrope ropes = new Signrope();
            Due.fill(ropes, 0, 121);
            edges.refuses(ropes, "itself, 242 signs", Due.TOO_LONG, in -> in.rope(0, 0));
            Due.fill(ropes, 0, 240);
            edges.refuses(ropes, "a full one itself", Due.TOO_LONG, in -> in.rope(0, 0));
            edges.is("a full one to an empty one", 240, ropes.rope(1, 0));
        });
    }

    private void ropePart() {
        edges.test(15, "A PART of the TEXT of a ROPE is laid behind", () -> {
            Signrope ropes = Edges.words();
            edges.is("all", 8, ropes.ropePart(3, 0, 0, 6));
            edges.is("none at 0", 8, ropes.ropePart(3, 0, 0, 0));
            edges.is("none at the end", 8, ropes.ropePart(3, 0, 6, 6));
            edges.is("none of an empty one", 8, ropes.ropePart(3, 2, 0, 0));
            edges.is("the last sign", 9, ropes.ropePart(3, 0, 5, 6));
            edges.is("text", "{}abcabcc", ropes.text(3));
            Due.fill(ropes, 0, 240);
            edges.is("the last sign of a full one", 10, ropes.ropePart(3, 0, 239, 240));
            edges.is("none at the end of a full one", 10, ropes.ropePart(3, 0, 240, 240));
            edges.is("all of a full one", 240, ropes.ropePart(2, 0, 0, 240));
            edges.is("texts", "{}abcabccc " + Due.filledText(240), ropes.text(3) + " " + ropes.text(2));
        });
        edges.test(15, "whose TEXT (may be the same)", () -> {
            Signrope ropes = Edges.words();
            edges.is("all of itself", 12, ropes.ropePart(0, 0, 0, 6));
            edges.is("its last sign", 13, ropes.ropePart(0, 0, 11, 12));
            edges.is("none of itself", 13, ropes.ropePart(0, 0, 13, 13));
            edges.is("text", "abcabcabcabcc", ropes.text(0));
            edges.is("none of an empty one itself", 0, ropes.ropePart(2, 2, 0, 0));
        });
        edges.noRopeOfBoth(15, (ropes, rope) -> ropes.ropePart(rope, 0, 0, 0),
            (ropes, other) -> ropes.ropePart(0, other, 0, 0));
        edges.test(15, "Throws `IllegalArgumentException` if from and to tell no PART of the other one's TEXT", () -> {
            Signrope ropes = Edges.words();
            edges.refusesEachIn(ropes, Due.NO_ARGUMENT, new int[] {-1, 5, Edges.LEAST, Edges.GREATEST},
                (in, from) -> in.ropePart(0, 1, from, 4));
            edges.refusesEachIn(ropes, Due.NO_ARGUMENT, new int[] {1, -1, 5, 6, Edges.LEAST, Edges.GREATEST},
                (in, to) -> in.ropePart(0, 1, 2, to));
            edges.refusesEachIn(ropes, Due.NO_ARGUMENT, new int[] {-1, 1}, (in, to) -> in.ropePart(0, 2, 0, to));
            edges.refuses(ropes, "of itself", Due.NO_ARGUMENT, in -> in.ropePart(0, 0, 0, 7));
            edges.is("the first one's length does not count", 2, Edges.words().ropePart(2, 0, 4, 6));
        });
        edges.test(15, TOO_LONG, () -> {
            edges.layingStopsAtFull("", ropes -> ropes.ropePart(0, 1, 2, 2));
            edges.layingStopsAtFull("c", ropes -> ropes.ropePart(0, 1, 5, 6));
            edges.layingStopsAtFull("abcabc", ropes -> ropes.ropePart(0, 1, 0, 6));
            Signrope ropes = new Signrope();
            Due.fill(ropes, 0, 121);
            edges.refuses(ropes, "of itself, 241 signs", Due.TOO_LONG, in -> in.ropePart(0, 0, 1, 121));
            edges.is("of itself, 240 signs", 240, ropes.ropePart(0, 0, 2, 121));
        });
    }
}
