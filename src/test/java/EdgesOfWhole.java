import java.math.BigInteger;

/** Boundary cases of promises 45 to 48: the whole. */
final class EdgesOfWhole {
    private final Edges edges;

    EdgesOfWhole(Edges edges) {
        this.edges = edges;
    }

    void all() {
        edges.test(45, "how often one knocked, with this", () -> {
            Signrope ropes = new Signrope();
            edges.is("first", 1, ropes.knock());
            edges.is("second", 2, ropes.knock());
            edges.is("of another object", 1, new Signrope().knock());
        });
        house();
        edges.test(47, "Returns whether all of this is so, of each ROPE", this::sound);
        edges.test(47, "if there is one", () -> {
            Signrope ropes = new Signrope();
            edges.is("all are empty", true, ropes.isSound());
            ropes.sign(2, 0);
            edges.is("one has one sign", true, ropes.isSound());
        });
        edges.test(47, "and of each two", this::soundTwo);
        digest();
    }

    private void house() {
        edges.test(46, "0 how long all TEXTS are together", () -> {
            edges.is("none", 0, new Signrope().house(0));
            edges.is("all full", 960, Edges.full().house(0));
            edges.is("some", 12, Edges.words().house(0));
        });
        edges.test(46, "1 how often one knocked", () -> {
            Signrope ropes = new Signrope();
            edges.is("never", 0, ropes.house(1));
            ropes.knock();
            edges.is("once", 1, ropes.house(1));
            edges.is("asking is no knock", 1, ropes.house(1));
        });
        edges.test(46, "2 how often REFUSED was told", () -> {
            Signrope ropes = new Signrope();
            edges.is("never", 0, ropes.house(2));
            ropes.findNothing(0, true);
            ropes.compareNothing(0);
            edges.is("twice", 2, ropes.house(2));
            edges.refuses(ropes, "an exception tells nothing", Due.NO_PLACE, in -> in.findNothing(4, true));
            edges.refuses(ropes, "an exception tells nothing", Due.NO_PLACE, in -> in.compareNothing(-1));
            edges.is("NONE is not REFUSED", -1, ropes.find(0, 1, false));
            edges.is("still twice", 2, ropes.house(2));
        });
        edges.test(46, "3 how many pairs of ROPES have the same TEXT", this::pairs);
        edges.test(46, "4 how many acts were done that stand under \"begun\" (but ensure()), \"laid behind\", \"put in\" "
            + "and \"changed\" above", this::acts);
        edges.test(46, "(those that threw nothing, ", this::actsThatThrew);
        edges.test(46, "also if the TEXT is the same then)", this::actsThatChangeNothing);
        edges.test(46, "Throws `IllegalArgumentException` if what is not 0 to 4", () -> {
            Signrope ropes = new Signrope();
            edges.is("the least", 0, ropes.house(0));
            edges.is("the greatest", 0, ropes.house(4));
            edges.refusesEach(Due.NO_ARGUMENT, new int[] {-1, 5, Edges.LEAST, Edges.GREATEST}, Signrope::house);
        });
    }

    private void pairs() {
        Signrope ropes = new Signrope();
        edges.is("all empty", 6, ropes.house(3));
        ropes.sign(3, 0);
        edges.is("three the same, the sign 0 is a text of its own", 3, ropes.house(3));
        ropes.sign(2, 0);
        edges.is("two and two", 2, ropes.house(3));
        ropes.sign(2, 0);
        edges.is("two", 1, ropes.house(3));
        ropes.sign(1, 255);
        edges.is("none", 0, ropes.house(3));
        Signrope full = Edges.full();
        edges.is("all full", 6, full.house(3));
        full.setSign(0, 239, 0);
        edges.is("the last of 240 signs", 3, full.house(3));
        Signrope cut = Due.ropesOf(3, 62, 1, 0);
        cut.setLength(0, 2);
        cut.delete(1, 2, 4);
        edges.is("what was cut off counts no more", 1, cut.house(3));
        Signrope sameHash = sameHash();
        edges.is("the same HASH", sameHash.hash(0), sameHash.hash(1));
        edges.is("another TEXT all the same", 0, sameHash.house(3));
    }

    /** "ab" and "bC" have the same HASH: 97 * 31 + 98 and 98 * 31 + 67. */
    private static Signrope sameHash() {
        Signrope ropes = Due.ropesOf(2, 5, 1, 0);
        ropes.sign(1, 67);
        return ropes;
    }

    private void acts() {
        Signrope ropes = new Signrope();
        CallCounter counter = new CallCounter(ropes);
        counter.act("begin", ropes.begin(0, 69));
        counter.act("beginAs", ropes.beginAs(1, 0));
        counter.none("ensure", ropes.ensure(0, 500));
        counter.act("word", ropes.word(0, 1));
        counter.act("sign", ropes.sign(0, 1));
        counter.act("point", ropes.point(0, 1));
        counter.act("number", ropes.number(0, 1));
        counter.act("longNumber", ropes.longNumber(0, 1, 1));
        counter.act("truth", ropes.truth(0, true));
        counter.act("row", ropes.row(0, 1));
        counter.act("rowPart", ropes.rowPart(0, 1, 0, 1));
        counter.act("nothing", ropes.nothing(0, true));
        counter.act("rope", ropes.rope(0, 1));
        counter.act("ropePart", ropes.ropePart(0, 1, 0, 1));
        counter.act("putWord", ropes.putWord(0, 0, 1));
        counter.act("putSign", ropes.putSign(0, 0, 1));
        counter.act("putNumber", ropes.putNumber(0, 0, 1));
        counter.act("putLong", ropes.putLong(0, 0, 1, 1));
        counter.act("putTruth", ropes.putTruth(0, 0, true));
        counter.act("putRow", ropes.putRow(0, 0, 1));
        counter.act("putRowPart", ropes.putRowPart(0, 0, 1, 0, 1));
        counter.act("putNothing", ropes.putNothing(0, 0, true));
        counter.act("putRope", ropes.putRope(0, 0, 1));
        counter.act("putPart", ropes.putPart(0, 0, 1, 0, 1));
        counter.act("replace", ropes.replace(0, 0, 1, 1));
        counter.act("replaceBy", ropes.replaceBy(0, 0, 1, 1));
        counter.act("delete", ropes.delete(0, 0, 1));
        counter.act("deleteAt", ropes.deleteAt(0, 0));
        counter.act("setSign", ropes.setSign(0, 0, 1));
        counter.act("turn", ropes.turn(0));
        counter.act("setLength", ropes.setLength(0, 1));
        askedAreNoActs(ropes, counter);
    }

    private void askedAreNoActs(Signrope ropes, CallCounter counter) {
        counter.none("text", ropes.text(0));
        counter.none("length", ropes.length(0));
        counter.none("at", ropes.at(0, 0));
        counter.none("part", ropes.part(0, 0, 1));
        counter.none("rest", ropes.rest(0, 0));
        counter.none("find", ropes.find(0, 1, true));
        counter.none("findFrom", ropes.findFrom(0, 1, 0, false));
        counter.none("findNothing", ropes.findNothing(0, true));
        counter.none("compare", ropes.compare(0, 1));
        counter.none("compareNothing", ropes.compareNothing(0));
        counter.none("hash", ropes.hash(0));
        counter.none("wordText", ropes.wordText(1));
        counter.none("knock", ropes.knock());
        counter.none("house", ropes.house(0));
        counter.none("isSound", ropes.isSound());
        counter.none("digest", ropes.digest());
    }

    private final class CallCounter {
        private final Signrope ropes;
        private int acts;

        CallCounter(Signrope ropes) {
            this.ropes = ropes;
        }

        void act(String call, int answer) {
            acts++;
            edges.is(call + ", which answered " + answer, acts, ropes.house(4));
        }

        void none(String call, Object answer) {
            edges.is(call + ", which answered " + answer, acts, ropes.house(4));
        }
    }

    private void actsThatThrew() {
        Signrope ropes = Due.ropesOf(69, 0, 0, 0);
        Due.fill(ropes, 3, 240);
        int acts = ropes.house(4);
        edges.refuses(ropes, "no rope", Due.NO_PLACE, in -> in.begin(4, 0));
        edges.refuses(ropes, "no word", Due.NO_ARGUMENT, in -> in.word(0, 70));
        edges.refuses(ropes, "no room", Due.TOO_LONG, in -> in.truth(3, true));
        edges.refuses(ropes, "no place", Due.NO_PLACE, in -> in.putSign(0, 7, 0));
        edges.refuses(ropes, "no sign", Due.NO_PLACE, in -> in.deleteAt(0, 6));
        edges.refuses(ropes, "no cut", Due.NO_ARGUMENT, in -> in.delete(0, 7, 8));
        edges.refuses(ropes, "no length", Due.NO_ARGUMENT, in -> in.setLength(0, 241));
        edges.is("acts", acts, ropes.house(4));
        ropes.delete(0, 6, 6);
        edges.is("the next one", acts + 1, ropes.house(4));
    }

    private void actsThatChangeNothing() {
        Signrope ropes = new Signrope();
        ropes.begin(0, 0);
        ropes.beginAs(0, 0);
        ropes.word(0, 0);
        ropes.rope(0, 0);
        ropes.row(0, 4);
        ropes.putWord(0, 0, 0);
        ropes.putRowPart(0, 0, 69, 6, 6);
        ropes.putPart(0, 0, 0, 0, 0);
        ropes.replace(0, 0, 9, 0);
        ropes.replaceBy(0, 0, 9, 0);
        ropes.delete(0, 0, 9);
        ropes.turn(0);
        ropes.setLength(0, 0);
        edges.is("thirteen acts in empty ropes", 13, ropes.house(4));
        edges.is("text", "", ropes.text(0));
        ropes.begin(1, 61);
        edges.is("the same sign", 97, ropes.setSign(1, 0, 97));
        edges.is("the same turned", 3, ropes.turn(1));
        edges.is("the same word", 3, ropes.replace(1, 0, 3, 61));
        edges.is("text", "aba", ropes.text(1));
        edges.is("four more", 17, ropes.house(4));
    }

    private void sound() {
        Signrope full = Edges.full();
        String before = Due.stateOf(full);
        edges.is("full", true, full.isSound());
        edges.is("nothing changes", before, Due.stateOf(full));
        full.setSign(0, 0, 0);
        full.setSign(1, 239, 255);
        edges.is("with the least and the greatest sign", true, full.isSound());
        Signrope zeros = new Signrope();
        zeros.setLength(0, 240);
        edges.is("of the sign 0 alone", true, zeros.isSound());
        Signrope ropes = Edges.words();
        String words = Due.stateOf(ropes);
        edges.is("some words", true, ropes.isSound());
        edges.is("nothing changes", words, Due.stateOf(ropes));
    }

    private void soundTwo() {
        Signrope ropes = Due.ropesOf(2, 3, 2, 0);
        edges.is("one the beginning of the other, two the same, one empty", true, ropes.isSound());
        Due.fill(ropes, 3, 240);
        Due.fill(ropes, 0, 239);
        edges.is("together longer than 240", true, ropes.isSound());
    }

    private void digest() {
        edges.test(48, "A number d starts with 7785; then d becomes d * 31 + v", () -> {
            int[] values = {0, 0, 0, 6, 0, 0, 0, -1, -1, -1, -1, 0, 0, -1, -1, -1, -1, 0, 0, -1, -1, -1, -1,
                0, 0, -1, -1, -1, -1, 0, 0, 0, 0, 0, 0, 1};
            edges.is("a new object", sumOf(values), new Signrope().digest());
        });
        edges.test(48, "which wraps around as a 64-bit integer", () -> {
            Signrope ropes = new Signrope();
            edges.is("a new object, not cut to 64 bits, is longer", true, fullSumOf(new int[36]).bitLength() > 64);
            ropes.setLength(2, 240);
            int[] values = {240, 0, 0, 3, 1, 0, 0, -1, -1, -1, -1, 0, 0, -1, -1, -1, -1, 240, 0, -1, -1, -1, -1,
                0, 0, -1, -1, -1, -1, 0, -1, 0, -1, 0, 1, 1};
            edges.is("a full one", sumOf(values), ropes.digest());
        });
        edges.test(48, "for each v in this order: house() of 0 to 4; ROPE by ROPE length(), hash(), find() of the WORDS 1 "
            + "and 66, first and last of each; for each two (the first one less than the other one) compare(); 1 if "
            + "isSound(), otherwise 0", this::digestOrder);
    }

    private void digestOrder() {
        Signrope ropes = Due.ropesOf(69, 66, 5, 5);
        ropes.putWord(0, 4, 66);
        ropes.word(1, 60);
        ropes.word(1, 66);
        for (int k = 0; k < 3; k++) {
            ropes.knock();
        }
        ropes.findNothing(0, true);
        ropes.compareNothing(0);
        int[] values = {13, 3, 2, 1, 7, 7, "abca bc".hashCode(), 0, 3, 4, 4, 4, " aa ".hashCode(), 1, 2, 0, 3,
            1, 98, -1, -1, -1, -1, 1, 98, -1, -1, -1, -1, 1, -1, -1, -1, -1, 0, 1};
        edges.is("four words", sumOf(values), ropes.digest());
        edges.is("asked again", sumOf(values), ropes.digest());
    }

    private static BigInteger fullSumOf(int[] values) {
        BigInteger sum = BigInteger.valueOf(7785);
        for (int value : values) {
            sum = sum.multiply(BigInteger.valueOf(31)).add(BigInteger.valueOf(value));
        }
        return sum;
    }

    private static long sumOf(int[] values) {
        return fullSumOf(values).longValue();
    }
}
