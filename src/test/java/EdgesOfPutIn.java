/** Boundary cases of promises 16 to 25: what is put in. */
final class EdgesOfPutIn {
    private static final String NO_PLACE =
        "Throws `IndexOutOfBoundsException` if there is no such ROPE, or at is no PLACE of it";
    private static final String NO_PLACE_OF_FIRST =
        "Throws `IndexOutOfBoundsException` if there is no such ROPE (both), or at is no PLACE of the first one";
    private static final String TOO_LONG = "Throws `IllegalStateException` if its TEXT would be too long";

    private final Edges edges;

    EdgesOfPutIn(Edges edges) {
        this.edges = edges;
    }

    interface Put {
        Object answer(Signrope ropes, int rope, int at);
    }

    void all() {
        putWord();
        putSign();
        putNumber();
        putLong();
        putTruth();
        putRow();
        putRowPart();
        putNothing();
        putRope();
        putPart();
    }

    private void noPlace(int promise, Put put) {
        edges.test(promise, NO_PLACE, () -> noRopeOrPlace(put));
    }

    private void noRopeOrPlace(Put put) {
        edges.refusesEach(Due.NO_PLACE, Due.NO_ROPES, (ropes, rope) -> put.answer(ropes, rope, 0));
        edges.refusesNoPlaces((ropes, at) -> put.answer(ropes, 0, at));
        Signrope ropes = Edges.words();
        edges.refuses(ropes, "a place of another one is none of it", Due.NO_PLACE, in -> put.answer(in, 2, 6));
    }

    private void putWord() {
        noPlace(16, (ropes, rope, at) -> ropes.putWord(rope, at, 0));
        edges.noWord(16, (ropes, word) -> ropes.putWord(0, 0, word));
        edges.test(16, TOO_LONG, () -> {
            edges.puttingStopsAtFull("", (ropes, at) -> ropes.putWord(0, at, 0));
            edges.puttingStopsAtFull("a", (ropes, at) -> ropes.putWord(0, at, 1));
            edges.puttingStopsAtFull("aba", (ropes, at) -> ropes.putWord(0, at, 61));
            edges.puttingStopsAtFull("abcabc", (ropes, at) -> ropes.putWord(0, at, 69));
        });
    }

    private void putSign() {
        noPlace(17, (ropes, rope, at) -> ropes.putSign(rope, at, 0));
        edges.test(17, "Throws `IllegalArgumentException` if code is not 0 to 255", () -> {
            Signrope ropes = new Signrope();
            edges.is("the least", 1, ropes.putSign(0, 0, 0));
            edges.is("the greatest", 2, ropes.putSign(0, 1, 255));
            edges.is("text", "\000\377", ropes.text(0));
            edges.refusesEach(Due.NO_ARGUMENT, Due.NO_CODES, (in, code) -> in.putSign(0, 0, code));
        });
        edges.test(17, TOO_LONG, () -> {
            edges.puttingStopsAtFull("\000", (ropes, at) -> ropes.putSign(0, at, 0));
            edges.puttingStopsAtFull("\377", (ropes, at) -> ropes.putSign(0, at, 255));
        });
    }

    private void putNumber() {
        noPlace(18, (ropes, rope, at) -> ropes.putNumber(rope, at, 0));
        edges.test(18, TOO_LONG, () -> {
            for (int number : new int[] {0, -1, 10, Edges.GREATEST, Edges.LEAST}) {
                edges.puttingStopsAtFull(String.valueOf(number), (ropes, at) -> ropes.putNumber(0, at, number));
            }
        });
    }

    private void putLong() {
        noPlace(19, (ropes, rope, at) -> ropes.putLong(rope, at, 0, 0));
        edges.test(19, TOO_LONG, () -> {
            edges.puttingStopsAtFull("0", (ropes, at) -> ropes.putLong(0, at, 0, 0));
            edges.puttingStopsAtFull("-1", (ropes, at) -> ropes.putLong(0, at, 0, -1));
            edges.puttingStopsAtFull("9223372036854775807", (ropes, at) -> ropes.putLong(0, at, Edges.LEAST, -1));
            edges.puttingStopsAtFull("-9223372036854775808", (ropes, at) -> ropes.putLong(0, at, Edges.LEAST, 0));
        });
    }

    private void putTruth() {
        noPlace(20, (ropes, rope, at) -> ropes.putTruth(rope, at, true));
        edges.test(20, TOO_LONG, () -> {
            edges.puttingStopsAtFull("true", (ropes, at) -> ropes.putTruth(0, at, true));
            edges.puttingStopsAtFull("false", (ropes, at) -> ropes.putTruth(0, at, false));
        });
    }

    private void putRow() {
        edges.test(21, "as a row that is changed right behind that, are put in", () -> {
            Signrope ropes = new Signrope();
            edges.is("empty", 0, ropes.putRow(0, 0, 0));
            edges.is("first", 6, ropes.putRow(0, 0, 69));
            ropes.setSign(0, 0, 'x');
            edges.is("the word is as it was", "abcabc", ropes.wordText(69));
            edges.is("again", 12, ropes.putRow(0, 0, 69));
            edges.is("a word of letters", 15, ropes.putRow(0, 12, 3));
            edges.is("what was put in is as it was", "abcabcxbcabcabc", ropes.text(0));
        });
        noPlace(21, (ropes, rope, at) -> ropes.putRow(rope, at, 0));
        edges.noWord(21, (ropes, word) -> ropes.putRow(0, 0, word));
        edges.test(21, TOO_LONG, () -> {
            edges.puttingStopsAtFull("", (ropes, at) -> ropes.putRow(0, at, 56));
            edges.puttingStopsAtFull(" ", (ropes, at) -> ropes.putRow(0, at, 66));
            edges.puttingStopsAtFull("abcabc", (ropes, at) -> ropes.putRow(0, at, 69));
        });
    }

    private void putRowPart() {
        edges.test(22, "A PART of the signs of a WORD, as a row, is put in", () -> {
            Signrope ropes = Due.ropesOf(60, 0, 0, 0);
            edges.is("all", 8, ropes.putRowPart(0, 1, 69, 0, 6));
            edges.is("none at 0", 8, ropes.putRowPart(0, 2, 69, 0, 0));
            edges.is("none at the end", 8, ropes.putRowPart(0, 8, 69, 6, 6));
            edges.is("none of the empty word", 8, ropes.putRowPart(0, 0, 0, 0, 0));
            edges.is("the last sign", 9, ropes.putRowPart(0, 0, 68, 1, 2));
            edges.is("text", "}aabcabca", ropes.text(0));
        });
        noPlace(22, (ropes, rope, at) -> ropes.putRowPart(rope, at, 1, 0, 0));
        edges.test(22, "Throws `IllegalArgumentException` if word is no number of a WORD, or from and to tell no PART of it",
            () -> {
                edges.refusesEach(Due.NO_ARGUMENT, Due.NO_WORDS, (ropes, word) -> ropes.putRowPart(0, 0, word, 0, 0));
                edges.refusesEach(Due.NO_ARGUMENT, new int[] {-1, 4, Edges.LEAST, Edges.GREATEST},
                    (ropes, from) -> ropes.putRowPart(0, 0, 3, from, 3));
                edges.refusesEach(Due.NO_ARGUMENT, new int[] {1, -1, 4, Edges.LEAST, Edges.GREATEST},
                    (ropes, to) -> ropes.putRowPart(0, 0, 3, 2, to));
                edges.refusesEach(Due.NO_ARGUMENT, new int[] {-1, 1}, (ropes, to) -> ropes.putRowPart(0, 0, 0, 0, to));
            });
        edges.test(22, TOO_LONG, () -> {
            edges.puttingStopsAtFull("", (ropes, at) -> ropes.putRowPart(0, at, 69, 3, 3));
            edges.puttingStopsAtFull("b", (ropes, at) -> ropes.putRowPart(0, at, 69, 1, 2));
            edges.puttingStopsAtFull("abcabc", (ropes, at) -> ropes.putRowPart(0, at, 69, 0, 6));
        });
    }

    private void putNothing() {
        edges.test(23, "Nothing is put in: that is \"null\"", () -> {
            Signrope ropes = new Signrope();
            edges.is("into an empty one", 4, ropes.putNothing(3, 0, true));
            edges.is("text", "null", ropes.text(3));
            edges.is("is not refused", 0, ropes.house(2));
            edges.is("is an act", 1, ropes.house(4));
        });
        edges.test(23, "(both are alike)", () -> {
            Signrope ropes = new Signrope();
            edges.is("a row of signs", 4, ropes.putNothing(0, 0, true));
            edges.is("a text", 4, ropes.putNothing(1, 0, false));
            edges.is("alike", 0, ropes.compare(0, 1));
        });
        noPlace(23, (ropes, rope, at) -> ropes.putNothing(rope, at, true));
        edges.test(23, TOO_LONG, () -> {
            edges.puttingStopsAtFull("null", (ropes, at) -> ropes.putNothing(0, at, true));
            edges.puttingStopsAtFull("null", (ropes, at) -> ropes.putNothing(0, at, false));
        });
    }

    private void putRope() {
        edges.test(24, "The TEXT of a ROPE is put in, as it is now", () -> {
            Signrope ropes = Edges.words();
            edges.is("into itself at 0", 12, ropes.putRope(0, 0, 0));
            edges.is("an empty one", 12, ropes.putRope(0, 12, 2));
            edges.is("into an empty one", 2, ropes.putRope(2, 0, 3));
            ropes.setSign(3, 0, 'x');
            edges.is("what changes later does not show", "{}", ropes.text(2));
        });
        edges.test(24, "whose TEXT (may be the same)", () -> {
            Signrope ropes = Due.ropesOf(2, 2, 2, 0);
            edges.is("at 0", 4, ropes.putRope(0, 0, 0));
            edges.is("at 0", "abab", ropes.text(0));
            edges.is("within", 4, ropes.putRope(1, 1, 1));
            edges.is("within", "aabb", ropes.text(1));
            edges.is("at the end", 4, ropes.putRope(2, 2, 2));
            edges.is("at the end", "abab", ropes.text(2));
            edges.is("an empty one", 0, ropes.putRope(3, 0, 3));
            Due.fill(ropes, 3, 120);
            edges.is("half of a full one", 240, ropes.putRope(3, 119, 3));
            String half = Due.filledText(120);
            edges.is("half of a full one", half.substring(0, 119) + half + "c", ropes.text(3));
        });
        edges.test(24, NO_PLACE_OF_FIRST, () -> {
            noRopeOrPlace((ropes, rope, at) -> ropes.putRope(rope, at, 3));
            edges.refusesEach(Due.NO_PLACE, Due.NO_ROPES, (ropes, other) -> ropes.putRope(0, 0, other));
        });
        edges.test(24, TOO_LONG, () -> {
            edges.puttingStopsAtFull("", (ropes, at) -> ropes.putRope(0, at, 3));
            edges.puttingStopsAtFull("a", (ropes, at) -> ropes.putRope(0, at, 2));
            edges.puttingStopsAtFull("abcabc", (ropes, at) -> ropes.putRope(0, at, 1));
            Signrope ropes = new Signrope();
            Due.fill(ropes, 0, 121);
            edges.refuses(ropes, "into itself, 242 signs", Due.TOO_LONG, in -> in.putRope(0, 60, 0));
            Due.fill(ropes, 0, 240);
            edges.refuses(ropes, "a full one into itself", Due.TOO_LONG, in -> in.putRope(0, 240, 0));
            edges.is("a full one into an empty one", 240, ropes.putRope(1, 0, 0));
        });
    }

    private void putPart() {
        edges.test(25, "A PART of the TEXT of a ROPE is put in, as it is now", () -> {
            Signrope ropes = Edges.words();
            edges.is("all", 8, ropes.putPart(3, 1, 0, 0, 6));
            edges.is("none at 0", 8, ropes.putPart(3, 0, 0, 0, 0));
            edges.is("none at the end", 8, ropes.putPart(3, 8, 0, 6, 6));
            edges.is("none of an empty one", 8, ropes.putPart(3, 4, 2, 0, 0));
            edges.is("the last sign", 9, ropes.putPart(3, 8, 0, 5, 6));
            edges.is("text", "{abcabc}c", ropes.text(3));
            ropes.setSign(0, 5, 'x');
            edges.is("what changes later does not show", "{abcabc}c", ropes.text(3));
            Due.fill(ropes, 0, 240);
            edges.is("the last sign of a full one", 10, ropes.putPart(3, 0, 0, 239, 240));
            edges.is("none at the end of a full one", 10, ropes.putPart(3, 10, 0, 240, 240));
            edges.is("all of a full one", 240, ropes.putPart(2, 0, 0, 0, 240));
            edges.is("texts", "c{abcabc}c " + Due.filledText(240), ropes.text(3) + " " + ropes.text(2));
        });
        edges.test(25, "whose TEXT (may be the same)", () -> {
            Signrope ropes = Due.ropesOf(69, 69, 69, 0);
            edges.is("all of itself at 0", 12, ropes.putPart(0, 0, 0, 0, 6));
            edges.is("text", "abcabcabcabc", ropes.text(0));
            edges.is("within the part", 10, ropes.putPart(1, 3, 1, 1, 5));
            edges.is("text", "abcbcababc", ropes.text(1));
            edges.is("its last sign at the end", 7, ropes.putPart(2, 6, 2, 5, 6));
            edges.is("none of itself", 7, ropes.putPart(2, 7, 2, 7, 7));
            edges.is("text", "abcabcc", ropes.text(2));
            edges.is("none of an empty one itself", 0, ropes.putPart(3, 0, 3, 0, 0));
        });
        edges.test(25, NO_PLACE_OF_FIRST, () -> {
            noRopeOrPlace((ropes, rope, at) -> ropes.putPart(rope, at, 3, 0, 0));
            edges.refusesEach(Due.NO_PLACE, Due.NO_ROPES, (ropes, other) -> ropes.putPart(0, 0, other, 0, 0));
        });
        edges.test(25, "Throws `IllegalArgumentException` if from and to tell no PART of the other one's TEXT", () -> {
            Signrope ropes = Edges.words();
            edges.refusesEachIn(ropes, Due.NO_ARGUMENT, new int[] {-1, 5, Edges.LEAST, Edges.GREATEST},
                (in, from) -> in.putPart(0, 0, 1, from, 4));
            edges.refusesEachIn(ropes, Due.NO_ARGUMENT, new int[] {1, -1, 5, 6, Edges.LEAST, Edges.GREATEST},
                (in, to) -> in.putPart(0, 6, 1, 2, to));
            edges.refusesEachIn(ropes, Due.NO_ARGUMENT, new int[] {-1, 1}, (in, to) -> in.putPart(0, 3, 2, 0, to));
            edges.refuses(ropes, "of itself", Due.NO_ARGUMENT, in -> in.putPart(0, 0, 0, 0, 7));
            edges.is("the first one's length does not count", 2, Edges.words().putPart(2, 0, 0, 4, 6));
        });
        edges.test(25, TOO_LONG, () -> {
            edges.puttingStopsAtFull("", (ropes, at) -> ropes.putPart(0, at, 1, 2, 2));
            edges.puttingStopsAtFull("c", (ropes, at) -> ropes.putPart(0, at, 1, 5, 6));
            edges.puttingStopsAtFull("abcabc", (ropes, at) -> ropes.putPart(0, at, 1, 0, 6));
            Signrope ropes = new Signrope();
            Due.fill(ropes, 0, 121);
            edges.refuses(ropes, "of itself, 241 signs", Due.TOO_LONG, in -> in.putPart(0, 5, 0, 1, 121));
            edges.is("of itself, 240 signs", 240, ropes.putPart(0, 5, 0, 2, 121));
        });
    }
}
