/** Boundary cases of promises 26 to 32: what is changed. */
final class EdgesOfChanged {
    private static final String BEHIND_THE_END = "(behind the end: as the end)";
    private static final String NO_CUT =
        "Throws `IllegalArgumentException` if from is below 0 or behind the end, or from is above to";
    private static final String TOO_LONG = "Throws `IllegalStateException` if its TEXT would be too long";

    private final Edges edges;

    EdgesOfChanged(Edges edges) {
        this.edges = edges;
    }

    interface Cut {
        Object answer(Signrope ropes, int rope, int from, int to);
    }

    void all() {
        replace();
        replaceBy();
        delete();
        deleteAt();
        setSign();
        turn();
        setLength();
    }

    private void refusesNoCuts(Cut cut) {
        refusesNoCutsOf(new Signrope(), 0, cut);
        refusesNoCutsOf(Edges.words(), 6, cut);
        refusesNoCutsOf(Edges.full(), 240, cut);
        Signrope ropes = Edges.words();
        edges.refuses(ropes, "from behind its own end, not another one's", Due.NO_ARGUMENT,
            in -> cut.answer(in, 2, 1, 6));
    }

    private void refusesNoCutsOf(Signrope ropes, int end, Cut cut) {
        int[][] cuts = {{-1, 0}, {-1, -1}, {Edges.LEAST, end}, {end + 1, end + 1}, {end + 1, Edges.GREATEST},
            {Edges.GREATEST, Edges.GREATEST}, {1, 0}, {0, -1}, {end, end - 1}, {0, Edges.LEAST}};
        for (int[] places : cuts) {
            edges.refuses(ropes, places[0] + " to " + places[1], Due.NO_ARGUMENT,
                in -> cut.answer(in, 0, places[0], places[1]));
        }
    }

    private void replace() {
        edges.test(26, "What stands from a place to a place goes, and a WORD comes in its place", () -> {
            Signrope ropes = Edges.words();
            edges.is("nothing goes and nothing comes", 6, ropes.replace(0, 3, 3, 0));
            edges.is("nothing goes at 0", 7, ropes.replace(0, 0, 0, 66));
            edges.is("nothing goes at the end", 9, ropes.replace(0, 7, 7, 68));
            edges.is("text", " abcabc{}", ropes.text(0));
            edges.is("nothing comes", 7, ropes.replace(0, 7, 9, 0));
            edges.is("all goes", 4, ropes.replace(0, 0, 7, 63));
            edges.is("text", "null", ropes.text(0));
            edges.is("all goes and nothing comes", 0, ropes.replace(0, 0, 4, 0));
            edges.is("in an empty one", 1, ropes.replace(0, 0, 0, 1));
            edges.is("text", "a", ropes.text(0));
        });
        edges.test(26, BEHIND_THE_END, () -> {
            Signrope ropes = Edges.words();
            edges.is("one behind", 4, ropes.replace(0, 3, 7, 1));
            edges.is("text", "abca", ropes.text(0));
            edges.is("far behind", 3, ropes.replace(0, 2, Edges.GREATEST, 1));
            edges.is("text", "aba", ropes.text(0));
            edges.is("from the end on", 4, ropes.replace(0, 3, Edges.GREATEST, 1));
            edges.is("in an empty one", 1, ropes.replace(2, 0, 1, 1));
            edges.is("all of a full one", 6, Edges.full().replace(0, 0, 241, 69));
        });
        edges.noRope(26, (ropes, rope) -> ropes.replace(rope, 0, 0, 1));
        edges.test(26, "Throws `IllegalArgumentException` if word is no number of a WORD, from is below 0 or behind the "
            + "end, or from is above to", () -> {
                edges.refusesEach(Due.NO_ARGUMENT, Due.NO_WORDS, (ropes, word) -> ropes.replace(0, 0, 0, word));
                refusesNoCuts((ropes, rope, from, to) -> ropes.replace(rope, from, to, 0));
            });
        edges.test(26, TOO_LONG, this::replaceTooLong);
    }

    private void replaceTooLong() {
        Signrope ropes = Edges.full();
        edges.is("as many as go, at 0", 240, ropes.replace(0, 0, 6, 69));
        edges.is("as many as go, at the end", 240, ropes.replace(0, 234, 999, 69));
        edges.is("none for none", 240, ropes.replace(0, 240, 240, 0));
        edges.is("text", Due.filledText(240), ropes.text(0));
        edges.refuses(ropes, "one more than goes, at 0", Due.TOO_LONG, in -> in.replace(0, 0, 5, 69));
        edges.refuses(ropes, "one more than goes, within", Due.TOO_LONG, in -> in.replace(0, 100, 102, 3));
        edges.refuses(ropes, "one more than goes, at the end", Due.TOO_LONG, in -> in.replace(0, 235, 999, 69));
        edges.refuses(ropes, "one for none", Due.TOO_LONG, in -> in.replace(0, 240, Edges.GREATEST, 1));
        edges.layingStopsAtFull("abcabc", in -> in.replace(0, in.length(0), 240, 69));
        edges.puttingStopsAtFull("null", (in, at) -> in.replace(0, at, at, 63));
    }

    private void replaceBy() {
        edges.test(27, "and the TEXT of a ROPE comes in its place, as it is ahead of that", () -> {
            Signrope ropes = Due.ropesOf(69, 2, 0, 0);
            edges.is("itself for its first sign", 11, ropes.replaceBy(0, 0, 1, 0));
            edges.is("text", "abcabcbcabc", ropes.text(0));
            edges.is("itself for all of itself", 2, ropes.replaceBy(1, 0, 2, 1));
            edges.is("text", "ab", ropes.text(1));
            edges.is("an empty one for nothing", 0, ropes.replaceBy(2, 0, 0, 3));
            edges.is("an empty one for all", 0, ropes.replaceBy(0, 0, 11, 3));
            edges.is("text", "", ropes.text(0));
        });
        edges.test(27, BEHIND_THE_END, () -> {
            Signrope ropes = Edges.words();
            edges.is("one behind", 5, ropes.replaceBy(0, 3, 7, 3));
            edges.is("text", "abc{}", ropes.text(0));
            edges.is("far behind", 4, ropes.replaceBy(0, 2, Edges.GREATEST, 3));
            edges.is("from the end on", 6, ropes.replaceBy(0, 4, Edges.GREATEST, 3));
            edges.is("text", "ab{}{}", ropes.text(0));
            edges.is("in an empty one", 2, ropes.replaceBy(2, 0, 1, 3));
            edges.is("all of a full one by itself", 240, Edges.full().replaceBy(0, 0, 241, 0));
        });
        edges.test(27, "whose TEXT (may be the same)", () -> {
            Signrope ropes = Due.ropesOf(3, 3, 3, 0);
            edges.is("for none at 0", 6, ropes.replaceBy(0, 0, 0, 0));
            edges.is("text", "abcabc", ropes.text(0));
            edges.is("within", 5, ropes.replaceBy(1, 1, 2, 1));
            edges.is("text", "aabcc", ropes.text(1));
            edges.is("for its last sign", 5, ropes.replaceBy(2, 2, 9, 2));
            edges.is("text", "ababc", ropes.text(2));
            edges.is("an empty one", 0, ropes.replaceBy(3, 0, 0, 3));
        });
        edges.noRopeOfBoth(27, (ropes, rope) -> ropes.replaceBy(rope, 0, 0, 3),
            (ropes, other) -> ropes.replaceBy(0, 0, 0, other));
        edges.test(27, NO_CUT, () -> refusesNoCuts((ropes, rope, from, to) -> ropes.replaceBy(rope, from, to, 2)));
        edges.test(27, TOO_LONG, this::replaceByTooLong);
    }

    private void replaceByTooLong() {
        Signrope ropes = Edges.full();
        ropes.begin(1, 69);
        edges.is("as many as go, at 0", 240, ropes.replaceBy(0, 0, 6, 1));
        edges.is("as many as go, at the end", 240, ropes.replaceBy(0, 234, 999, 1));
        edges.is("all by all of a full one", 240, ropes.replaceBy(0, 0, 240, 2));
        edges.is("text", Due.filledText(240), ropes.text(0));
        edges.refuses(ropes, "one more than goes, at 0", Due.TOO_LONG, in -> in.replaceBy(0, 0, 5, 1));
        edges.refuses(ropes, "one more than goes, at the end", Due.TOO_LONG, in -> in.replaceBy(0, 235, 999, 1));
        edges.refuses(ropes, "a full one by itself for one sign too few", Due.TOO_LONG, in -> in.replaceBy(0, 1, 240, 0));
        edges.refuses(ropes, "a full one for none", Due.TOO_LONG, in -> in.replaceBy(1, 6, 6, 0));
        Due.fill(ropes, 3, 121);
        edges.refuses(ropes, "itself for one sign, 241 signs", Due.TOO_LONG, in -> in.replaceBy(3, 7, 8, 3));
        edges.is("itself for two signs, 240 signs", 240, ropes.replaceBy(3, 7, 9, 3));
    }

    private void delete() {
        edges.test(28, "What stands from a place to a place goes", () -> {
            Signrope ropes = Edges.words();
            edges.is("nothing at 0", 6, ropes.delete(0, 0, 0));
            edges.is("nothing at the end", 6, ropes.delete(0, 6, 6));
            edges.is("the first sign", 5, ropes.delete(0, 0, 1));
            edges.is("the last sign", 4, ropes.delete(0, 4, 5));
            edges.is("text", "bcab", ropes.text(0));
            edges.is("all", 0, ropes.delete(0, 0, 4));
            edges.is("nothing of an empty one", 0, ropes.delete(0, 0, 0));
            Signrope full = Edges.full();
            edges.is("all of a full one", 0, full.delete(0, 0, 240));
            edges.is("text", "", full.text(0));
        });
        edges.test(28, BEHIND_THE_END, () -> {
            Signrope ropes = Edges.words();
            edges.is("one behind", 4, ropes.delete(0, 4, 7));
            edges.is("far behind", 2, ropes.delete(0, 2, Edges.GREATEST));
            edges.is("from the end on", 2, ropes.delete(0, 2, 3));
            edges.is("text", "ab", ropes.text(0));
            edges.is("of an empty one", 0, ropes.delete(2, 0, 1));
            edges.is("of a full one", 239, Edges.full().delete(0, 239, 241));
        });
        edges.noRope(28, (ropes, rope) -> ropes.delete(rope, 0, 0));
        edges.test(28, NO_CUT, () -> refusesNoCuts((ropes, rope, from, to) -> ropes.delete(rope, from, to)));
    }

    private void deleteAt() {
        edges.test(29, "A SIGN goes", () -> {
            Signrope ropes = Edges.words();
            edges.is("the first", 5, ropes.deleteAt(0, 0));
            edges.is("the last", 4, ropes.deleteAt(0, 4));
            edges.is("text", "bcab", ropes.text(0));
            ropes.setLength(0, 1);
            edges.is("the only one", 0, ropes.deleteAt(0, 0));
            edges.is("the last of a full one", 239, Edges.full().deleteAt(0, 239));
        });
        edges.test(29, "Throws `IndexOutOfBoundsException` if there is no such ROPE, or no SIGN at that place", () -> {
            edges.refusesEachIn(Edges.words(), Due.NO_PLACE, Due.NO_ROPES, (ropes, rope) -> ropes.deleteAt(rope, 0));
            edges.refusesNoSigns((ropes, at) -> ropes.deleteAt(0, at));
            edges.refuses(Edges.words(), "the last place of another one", Due.NO_PLACE, in -> in.deleteAt(3, 5));
        });
    }

    private void setSign() {
        edges.test(30, "Another SIGN stands in a place", () -> {
            Signrope ropes = Edges.words();
            ropes.setSign(0, 0, 0);
            ropes.setSign(0, 5, 255);
            edges.is("first and last", "\000bcab\377", ropes.text(0));
            Signrope full = Edges.full();
            full.setSign(0, 239, 1);
            edges.is("the last of a full one", Due.filledText(239) + "\001", full.text(0));
        });
        edges.test(30, "Returns the code of the one before", () -> {
            Signrope ropes = Edges.words();
            edges.is("a letter", 97, ropes.setSign(0, 0, 255));
            edges.is("the greatest", 255, ropes.setSign(0, 0, 0));
            edges.is("the least", 0, ropes.setSign(0, 0, 0));
            edges.is("the same again", 0, ropes.setSign(0, 0, 128));
            edges.is("above 127", 128, ropes.setSign(0, 0, 127));
        });
        edges.test(30, "Throws `IndexOutOfBoundsException` if there is no such ROPE, or no SIGN at that place", () -> {
            edges.refusesEachIn(Edges.words(), Due.NO_PLACE, Due.NO_ROPES, (ropes, rope) -> ropes.setSign(rope, 0, 1));
            edges.refusesNoSigns((ropes, at) -> ropes.setSign(0, at, 1));
            edges.refuses(Edges.words(), "the last place of another one", Due.NO_PLACE, in -> in.setSign(3, 5, 1));
        });
        edges.test(30, "Throws `IllegalArgumentException` if code is not 0 to 255", () -> {
            edges.refusesEachIn(Edges.words(), Due.NO_ARGUMENT, Due.NO_CODES, (ropes, code) -> ropes.setSign(0, 0, code));
            edges.refusesEachIn(Edges.full(), Due.NO_ARGUMENT, Due.NO_CODES, (ropes, code) -> ropes.setSign(0, 239, code));
        });
    }

    private void turn() {
        edges.test(31, "A TEXT is TURNED: the last SIGN first", () -> {
            Signrope ropes = Due.ropesOf(0, 1, 2, 3);
            edges.is("no sign", 0, ropes.turn(0));
            edges.is("one sign", 1, ropes.turn(1));
            edges.is("two signs", 2, ropes.turn(2));
            edges.is("three signs", 3, ropes.turn(3));
            edges.is("texts", "|a|ba|cba",
                ropes.text(0) + "|" + ropes.text(1) + "|" + ropes.text(2) + "|" + ropes.text(3));
            Due.fill(ropes, 0, 240);
            edges.is("a full one", 240, ropes.turn(0));
            edges.is("text", new StringBuilder(Due.filledText(240)).reverse().toString(), ropes.text(0));
            Due.fill(ropes, 0, 239);
            edges.is("one less than a full one", 239, ropes.turn(0));
            edges.is("text", new StringBuilder(Due.filledText(239)).reverse().toString(), ropes.text(0));
        });
        edges.noRope(31, Signrope::turn);
    }

    private void setLength() {
        edges.test(32, "what stands behind that goes", () -> {
            Signrope ropes = Edges.full();
            ropes.setLength(0, 1);
            edges.is("one is left", "a", ropes.text(0));
            ropes.setLength(0, 3);
            edges.is("what went does not come back", "a\000\000", ropes.text(0));
            ropes.setLength(0, 0);
            edges.is("none is left", "", ropes.text(0));
            ropes.word(0, 2);
            ropes.setLength(0, 240);
            edges.is("nothing of the full one comes back", "ab" + "\000".repeat(238), ropes.text(0));
        });
        edges.test(32, "what is not there is the SIGN of the code 0", () -> {
            Signrope ropes = new Signrope();
            ropes.setLength(0, 1);
            edges.is("one", 0, ropes.at(0, 0));
            ropes.setLength(1, 240);
            edges.is("240", "\000".repeat(240), ropes.text(1));
            edges.is("they are full", 0, ropes.at(1, 239));
            edges.refuses(ropes, "they are full", Due.TOO_LONG, in -> in.sign(1, 0));
            ropes.begin(2, 69);
            ropes.setLength(2, 6);
            edges.is("the same length", "abcabc", ropes.text(2));
            ropes.setLength(2, 7);
            edges.is("one more", "abcabc\000", ropes.text(2));
        });
        edges.test(32, "Returns how long it was", () -> {
            Signrope ropes = new Signrope();
            edges.is("empty", 0, ropes.setLength(0, 0));
            edges.is("empty to full", 0, ropes.setLength(0, 240));
            edges.is("full", 240, ropes.setLength(0, 240));
            edges.is("full to empty", 240, ropes.setLength(0, 0));
        });
        edges.noRope(32, (ropes, rope) -> ropes.setLength(rope, 0));
        edges.test(32, "Throws `IllegalArgumentException` if length is not 0 to 240", () -> {
            Signrope ropes = Edges.words();
            ropes.setLength(0, 240);
            edges.is("the greatest", 240, ropes.length(0));
            ropes.setLength(0, 0);
            edges.is("the least", 0, ropes.length(0));
            edges.refusesEach(Due.NO_ARGUMENT, new int[] {-1, 241, 480, 481, Edges.LEAST, Edges.GREATEST},
                (in, length) -> in.setLength(0, length));
        });
    }
}
