/** Boundary cases of promises 1 to 4. */
final class EdgesOfBegun {
    private final Edges edges;

    EdgesOfBegun(Edges edges) {
        this.edges = edges;
    }

    void all() {
        edges.test(1, "Creates ropes without signs", this::withoutSigns);
        begin();
        beginAs();
        ensure();
    }

    private void withoutSigns() {
        Signrope ropes = new Signrope();
        for (int rope = 0; rope < 4; rope++) {
            edges.is("length of " + rope, 0, ropes.length(rope));
        }
        edges.is("all signs", 0, ropes.house(0));
        edges.is("no act was done", 0, ropes.house(4));
        edges.is("sound", true, ropes.isSound());
    }

    private void begin() {
        edges.test(2, "A ROPE is begun anew with a WORD as its TEXT", () -> {
            Signrope ropes = Edges.full();
            ropes.begin(0, 0);
            edges.is("nothing is left of a full one", "", ropes.text(0));
            ropes.begin(1, 1);
            edges.is("but the word", "a", ropes.text(1));
            ropes.setLength(1, 3);
            edges.is("what was does not come back", "a\000\000", ropes.text(1));
        });
        edges.test(2, "Returns how long its TEXT was", () -> {
            Signrope ropes = new Signrope();
            edges.is("empty", 0, ropes.begin(0, 69));
            edges.is("six", 6, ropes.begin(0, 0));
            edges.is("empty again", 0, ropes.begin(0, 0));
            Due.fill(ropes, 3, 240);
            edges.is("full", 240, ropes.begin(3, 1));
        });
        edges.noRope(2, (ropes, rope) -> ropes.begin(rope, 1));
        edges.noWord(2, (ropes, word) -> ropes.begin(0, word));
    }

    private void beginAs() {
        edges.test(3, "the TEXT of another one (may be the same)", () -> {
            Signrope ropes = Edges.words();
            edges.is("itself", 6, ropes.beginAs(0, 0));
            edges.is("stays", "abcabc", ropes.text(0));
            edges.is("an empty one itself", 0, ropes.beginAs(2, 2));
            edges.is("stays empty", "", ropes.text(2));
            Signrope full = Edges.full();
            edges.is("a full one itself", 240, full.beginAs(3, 3));
            edges.is("stays full", Due.filledText(240), full.text(3));
        });
        edges.test(3, "Returns how long its TEXT was", () -> {
            Signrope ropes = Edges.words();
            Due.fill(ropes, 3, 240);
            edges.is("as a full one", 0, ropes.beginAs(2, 3));
            edges.is("is full", Due.filledText(240), ropes.text(2));
            edges.is("a full one as six signs", 240, ropes.beginAs(2, 0));
            edges.is("has six signs", "abcabc", ropes.text(2));
            ropes.begin(1, 0);
            edges.is("as an empty one", 6, ropes.beginAs(2, 1));
            edges.is("is empty", "", ropes.text(2));
        });
        edges.noRopeOfBoth(3, (ropes, rope) -> ropes.beginAs(rope, 0), (ropes, other) -> ropes.beginAs(0, other));
    }

    private void ensure() {
        edges.test(4, "ROOM is made for more signs: nothing shows", () -> {
            for (Signrope ropes : new Signrope[] {new Signrope(), Edges.words(), Edges.full()}) {
                String before = Due.stateOf(ropes);
                for (int many : new int[] {-9, 0, 1, 240, 241, 500}) {
                    edges.is("room for " + many, ropes.length(0), ropes.ensure(0, many));
                    edges.is("nothing shows", before, Due.stateOf(ropes));
                }
            }
            Signrope ropes = Edges.full();
            ropes.ensure(0, 500);
            edges.refuses(ropes, "there is no room for more than 240", Due.TOO_LONG, in -> in.sign(0, 0));
        });
        edges.test(4, "Returns how long its TEXT is", () -> {
            Signrope ropes = Edges.full();
            edges.is("full", 240, ropes.ensure(0, 500));
            edges.is("empty", 0, new Signrope().ensure(3, -9));
        });
        edges.noRope(4, (ropes, rope) -> ropes.ensure(rope, 0));
        edges.test(4, "Throws `IllegalArgumentException` if many is not -9 to 500", () -> {
            Signrope ropes = Edges.words();
            edges.is("the least", 6, ropes.ensure(0, -9));
            edges.is("the greatest", 6, ropes.ensure(0, 500));
            edges.refusesEach(Due.NO_ARGUMENT, new int[] {-10, 501, Edges.LEAST, Edges.GREATEST},
                (in, many) -> in.ensure(0, many));
        });
    }
}
