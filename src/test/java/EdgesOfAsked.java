/** Boundary cases of promises 33 to 44: what is asked. */
final class EdgesOfAsked {
    private final Edges edges;

    EdgesOfAsked(Edges edges) {
        this.edges = edges;
    }

    void all() {
        text();
        length();
        at();
        part();
        rest();
        find();
        findFrom();
        refused();
        compare();
        hash();
        wordText();
    }

    private void text() {
        edges.test(33, "Returns its TEXT", () -> {
            Signrope ropes = new Signrope();
            edges.is("empty", "", ropes.text(0));
            StringBuilder want = new StringBuilder();
            for (int code = 0; code < 240; code++) {
                ropes.sign(3, code + 16);
                want.append((char) (code + 16));
            }
            String told = ropes.text(3);
            ropes.setSign(3, 239, 0);
            edges.is("full, and as it was told it stays", want.toString(), told);
            edges.is("the sign 0 at the end is told", want.substring(0, 239) + "\000", ropes.text(3));
        });
        edges.noRope(33, Signrope::text);
    }

    private void length() {
        edges.test(34, "Returns how long its TEXT is", () -> {
            edges.is("empty", 0, new Signrope().length(3));
            edges.is("full", 240, Edges.full().length(3));
            Signrope ropes = new Signrope();
            ropes.sign(0, 0);
            edges.is("the sign 0 alone", 1, ropes.length(0));
        });
        edges.noRope(34, Signrope::length);
    }

    private void at() {
        edges.test(35, "Returns the code of the SIGN there", () -> {
            Signrope ropes = new Signrope();
            for (int code : new int[] {0, 127, 128, 255}) {
                ropes.sign(0, code);
            }
            edges.is("0", 0, ropes.at(0, 0));
            edges.is("127", 127, ropes.at(0, 1));
            edges.is("128", 128, ropes.at(0, 2));
            edges.is("255, at the last place", 255, ropes.at(0, 3));
        });
        edges.test(35, "Throws `IndexOutOfBoundsException` if there is no such ROPE, or no SIGN at that place", () -> {
            edges.refusesEachIn(Edges.words(), Due.NO_PLACE, Due.NO_ROPES, (ropes, rope) -> ropes.at(rope, 0));
            edges.refusesNoSigns((ropes, place) -> ropes.at(0, place));
            Signrope ropes = Edges.full();
            ropes.setLength(0, 6);
            edges.refuses(ropes, "a sign that went", Due.NO_PLACE, in -> in.at(0, 6));
        });
    }

    private void part() {
        edges.test(36, "Returns that PART of its TEXT", () -> {
            Signrope ropes = Edges.words();
            edges.is("all", "abcabc", ropes.part(0, 0, 6));
            edges.is("none at 0", "", ropes.part(0, 0, 0));
            edges.is("none at the end", "", ropes.part(0, 6, 6));
            edges.is("none of an empty one", "", ropes.part(2, 0, 0));
            edges.is("the last sign", "c", ropes.part(0, 5, 6));
            edges.is("all of a full one", Due.filledText(240), Edges.full().part(3, 0, 240));
        });
        edges.noRope(36, (ropes, rope) -> ropes.part(rope, 0, 0));
        edges.test(36, "Throws `IllegalArgumentException` if from and to tell no PART of it", () -> {
            Signrope ropes = Edges.words();
            edges.refusesEachIn(ropes, Due.NO_ARGUMENT, new int[] {-1, 7, Edges.LEAST, Edges.GREATEST},
                (in, from) -> in.part(0, from, 6));
            edges.refusesEachIn(ropes, Due.NO_ARGUMENT, new int[] {1, -1, 7, Edges.LEAST, Edges.GREATEST},
                (in, to) -> in.part(0, 2, to));
            edges.refusesEachIn(ropes, Due.NO_ARGUMENT, new int[] {-1, 1}, (in, to) -> in.part(2, 0, to));
            edges.refusesEachIn(Edges.full(), Due.NO_ARGUMENT, new int[] {241, 480, 481}, (in, to) -> in.part(0, 0, to));
        });
    }

    private void rest() {
        edges.test(37, "Returns what stands from there to the end", () -> {
            Signrope ropes = Edges.words();
            edges.is("all", "abcabc", ropes.rest(0, 0));
            edges.is("the last sign", "c", ropes.rest(0, 5));
            edges.is("nothing at the end", "", ropes.rest(0, 6));
            edges.is("nothing of an empty one", "", ropes.rest(2, 0));
            edges.is("all of a full one", Due.filledText(240), Edges.full().rest(3, 0));
            edges.is("nothing of a full one", "", Edges.full().rest(3, 240));
        });
        edges.noRope(37, (ropes, rope) -> ropes.rest(rope, 0));
        edges.test(37, "Throws `IllegalArgumentException` if from is below 0 or behind the end", () -> {
            int[] below = {-1, Edges.LEAST};
            edges.refusesEach(Due.NO_ARGUMENT, below, (in, from) -> in.rest(0, from));
            edges.refusesEach(Due.NO_ARGUMENT, new int[] {241, Edges.GREATEST}, (in, from) -> in.rest(0, from));
            edges.refusesEachIn(new Signrope(), Due.NO_ARGUMENT, new int[] {1}, (in, from) -> in.rest(0, from));
            edges.refusesEachIn(Edges.words(), Due.NO_ARGUMENT, new int[] {7}, (in, from) -> in.rest(0, from));
        });
    }

    private void find() {
        edges.test(38, "whether the last place, otherwise the first one", () -> {
            Signrope ropes = Due.ropesOf(60, 69, 67, 61);
            ropes.word(0, 60);
            edges.is("first, at 0", 0, ropes.find(0, 60, false));
            edges.is("last, lying over another one, at the end", 2, ropes.find(0, 60, true));
            edges.is("the whole text first", 0, ropes.find(1, 69, false));
            edges.is("the whole text last", 0, ropes.find(1, 69, true));
            edges.is("one sign first", 0, ropes.find(3, 1, false));
            edges.is("one sign last", 2, ropes.find(3, 1, true));
            Signrope full = Edges.full();
            edges.is("first in a full one", 0, full.find(0, 69, false));
            edges.is("last in a full one", 234, full.find(0, 69, true));
        });
        edges.test(38, "NONE if it does not stand there", () -> {
            Signrope ropes = Due.ropesOf(62, 0, 60, 5);
            for (boolean isLast : new boolean[] {false, true}) {
                edges.is("a longer word", -1, ropes.find(0, 69, isLast));
                edges.is("a word with another last sign", -1, ropes.find(0, 3, isLast));
                edges.is("in an empty one", -1, ropes.find(1, 1, isLast));
                edges.is("only its beginning, at the end", -1, ropes.find(2, 2, isLast));
                edges.is("only its end, at the beginning", -1, ropes.find(3, 2, isLast));
                edges.is("in a full one", -1, Edges.full().find(0, 61, isLast));
            }
            ropes.begin(0, 69);
            ropes.setLength(0, 1);
            edges.is("not with what went", -1, ropes.find(0, 2, false));
            edges.is("not with what went", -1, ropes.find(0, 2, true));
        });
        edges.test(38, "(\"\" stands at 0 first, behind all last)", () -> {
            Signrope ropes = Edges.words();
            edges.is("first", 0, ropes.find(0, 0, false));
            edges.is("last", 6, ropes.find(0, 0, true));
            edges.is("another number of \"\" last", 6, ropes.find(0, 56, true));
            edges.is("first in an empty one", 0, ropes.find(2, 0, false));
            edges.is("last in an empty one", 0, ropes.find(2, 0, true));
            edges.is("first in a full one", 0, Edges.full().find(0, 0, false));
            edges.is("last in a full one", 240, Edges.full().find(0, 0, true));
        });
        edges.noRope(38, (ropes, rope) -> ropes.find(rope, 1, false));
        edges.noWord(38, (ropes, word) -> ropes.find(0, word, true));
    }

    private void findFrom() {
        edges.test(39, "behind the end it is the end", () -> {
            Signrope ropes = Edges.words();
            for (int from : new int[] {6, 7, 240, 241, Edges.GREATEST}) {
                edges.is("a word last from " + from, 3, ropes.findFrom(0, 3, from, true));
                edges.is("a word first from " + from, -1, ropes.findFrom(0, 1, from, false));
                edges.is("\"\" last from " + from, 6, ropes.findFrom(0, 0, from, true));
                edges.is("\"\" first from " + from, 6, ropes.findFrom(0, 0, from, false));
                edges.is("\"\" last in an empty one from " + from, 0, ropes.findFrom(2, 0, from, true));
                edges.is("\"\" first in an empty one from " + from, 0, ropes.findFrom(2, 0, from, false));
            }
            edges.is("\"\" last in a full one", 240, Edges.full().findFrom(0, 0, 241, true));
            edges.is("\"\" first in a full one", 240, Edges.full().findFrom(0, 0, 241, false));
        });
        edges.test(39, "(below 0 there is no place for isLast, ", () -> {
            Signrope ropes = Edges.words();
            for (int from : new int[] {-1, -2, Edges.LEAST}) {
                edges.is("a word from " + from, -1, ropes.findFrom(0, 1, from, true));
                edges.is("\"\" from " + from, -1, ropes.findFrom(0, 0, from, true));
                edges.is("\"\" in an empty one from " + from, -1, ropes.findFrom(2, 0, from, true));
            }
        });
        edges.test(39, "otherwise it is as 0)", () -> {
            Signrope ropes = Edges.words();
            for (int from : new int[] {-1, -2, Edges.LEAST}) {
                edges.is("a word from " + from, 0, ropes.findFrom(0, 1, from, false));
                edges.is("a word further on from " + from, 2, ropes.findFrom(0, 9, from, false));
                edges.is("\"\" from " + from, 0, ropes.findFrom(0, 0, from, false));
                edges.is("\"\" in an empty one from " + from, 0, ropes.findFrom(2, 0, from, false));
            }
        });
        edges.test(39, "whether the greatest place that is not above from, otherwise the least one that is not below it",
            () -> {
                Signrope ropes = Edges.words();
                int[] last = {0, 0, 0, 3, 3, 3, 3};
                int[] first = {0, 3, 3, 3, -1, -1, -1};
                for (int from = 0; from <= 6; from++) {
                    edges.is("\"ab\" last from " + from, last[from], ropes.findFrom(0, 2, from, true));
                    edges.is("\"ab\" first from " + from, first[from], ropes.findFrom(0, 2, from, false));
                    edges.is("\"\" last from " + from, from, ropes.findFrom(0, 0, from, true));
                    edges.is("\"\" first from " + from, from, ropes.findFrom(0, 0, from, false));
                }
            });
        edges.test(39, "NONE if there is none", () -> {
            Signrope ropes = Edges.words();
            edges.is("first, behind the last one", -1, ropes.findFrom(0, 3, 4, false));
            edges.is("last, ahead of the first one", -1, ropes.findFrom(0, 9, 1, true));
            edges.is("a longer word first", -1, ropes.findFrom(3, 3, 0, false));
            edges.is("a longer word last", -1, ropes.findFrom(3, 3, 2, true));
            edges.is("in an empty one first", -1, ropes.findFrom(2, 1, 0, false));
            edges.is("in an empty one last", -1, ropes.findFrom(2, 1, 0, true));
        });
        edges.noRope(39, (ropes, rope) -> ropes.findFrom(rope, 1, 0, false));
        edges.noWord(39, (ropes, word) -> ropes.findFrom(0, word, 0, true));
    }

    private void refused() {
        edges.test(40, "Returns REFUSED", () -> {
            edges.is("in a new object, first", -9, new Signrope().findNothing(0, false));
            edges.is("in a full one, last", -9, Edges.full().findNothing(3, true));
        });
        edges.test(40, "whether the last place, otherwise the first one", () -> {
            Signrope ropes = Edges.words();
            ropes.word(0, 63);
            edges.is("first, where \"null\" stands", -9, ropes.findNothing(0, false));
            edges.is("last, where \"null\" stands", -9, ropes.findNothing(0, true));
            edges.is("both were told", 2, ropes.house(2));
        });
        edges.noRope(40, (ropes, rope) -> ropes.findNothing(rope, true));
        edges.test(42, "Returns REFUSED", () -> {
            edges.is("in a new object", -9, new Signrope().compareNothing(0));
            edges.is("in a full one", -9, Edges.full().compareNothing(3));
        });
        edges.noRope(42, Signrope::compareNothing);
    }

    private void compare() {
        edges.test(41, "-1 if the TEXT of the first one is less, 1 if it is greater, 0 if both are the same", () -> {
            Signrope ropes = Edges.words();
            edges.is("itself", 0, ropes.compare(0, 0));
            edges.is("an empty one itself", 0, ropes.compare(2, 2));
            edges.is("empty to six signs", -1, ropes.compare(2, 0));
            edges.is("six signs to empty", 1, ropes.compare(0, 2));
            edges.is("far less, told as -1", -1, ropes.compare(0, 3));
            edges.is("far greater, told as 1", 1, ropes.compare(3, 0));
            Signrope full = Edges.full();
            edges.is("two full ones", 0, full.compare(0, 3));
            full.setSign(3, 239, 0);
            edges.is("the last of 240 signs", 1, full.compare(0, 3));
            full.setLength(3, 0);
            edges.is("full to empty, told as 1", 1, full.compare(0, 3));
        });
        edges.noRopeOfBoth(41, (ropes, rope) -> ropes.compare(rope, 0), (ropes, other) -> ropes.compare(0, other));
    }

    private void hash() {
        edges.test(43, "Returns HASH of its TEXT", () -> {
            edges.is("empty", 0, new Signrope().hash(3));
            edges.is("full", Due.filledText(240).hashCode(), Edges.full().hash(3));
            Signrope ropes = Due.ropesOf(67, 0, 0, 0);
            ropes.word(0, 67);
            edges.is("below 0 by wrapping around", "zzzzzzzz".hashCode(), ropes.hash(0));
        });
        edges.noRope(43, Signrope::hash);
    }

    private void wordText() {
        edges.test(44, "Returns it", () -> {
            Signrope ropes = new Signrope();
            edges.is("the first", "", ropes.wordText(0));
            edges.is("the last of letters", "opq", ropes.wordText(59));
            edges.is("the first behind these", "aa", ropes.wordText(60));
            edges.is("the last", "abcabc", ropes.wordText(69));
        });
        edges.noWord(44, Signrope::wordText);
    }
}
