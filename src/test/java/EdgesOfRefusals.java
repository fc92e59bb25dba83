import java.util.ArrayList;
import java.util.List;

/** Boundary cases of refused calls: which exception goes first, and that nothing changes by any of them. */
final class EdgesOfRefusals {
    private final Edges edges;

    /** A call that throws on shelf(), and what it throws. */
    private record Refused(String told, Class<? extends RuntimeException> want, Edges.CallIn call) { }

    EdgesOfRefusals(Edges edges) {
        this.edges = edges;
    }

    void all() {
        edges.test(0, "If several exceptions apply, the one that is named first is thrown", () -> {
            for (Refused refused : severalApply()) {
                edges.refuses(shelf(), refused.told, refused.want, refused.call);
            }
        });
        edges.test(0, "A method that throws an exception changes nothing", this::changesNothing);
    }

    /** Rope 0 is full, rope 1 "abcabc", rope 2 empty, rope 3 "{}". */
    private static Signrope shelf() {
        Signrope ropes = Due.ropesOf(0, 69, 0, 68);
        Due.fill(ropes, 0, 240);
        return ropes;
    }

    private List<Refused> severalApply() {
        List<Refused> all = new ArrayList<>();
        ropeAheadOfArgument(all);
        placeAheadOfArgument(all);
        placeAheadOfTooLong(all);
        argumentAheadOfTooLong(all);
        return all;
    }

    private static void ropeAheadOfArgument(List<Refused> all) {
        noPlace(all, "begin", in -> in.begin(4, 70));
        noPlace(all, "ensure", in -> in.ensure(4, 501));
        noPlace(all, "word", in -> in.word(4, 70));
        noPlace(all, "sign", in -> in.sign(4, 256));
        noPlace(all, "point", in -> in.point(4, 128));
        noPlace(all, "row", in -> in.row(4, 70));
        noPlace(all, "rowPart, word", in -> in.rowPart(4, 70, 0, 0));
        noPlace(all, "rowPart, part", in -> in.rowPart(4, 69, 3, 2));
        noPlace(all, "ropePart", in -> in.ropePart(4, 1, 3, 2));
        noPlace(all, "ropePart, other", in -> in.ropePart(2, 4, 3, 2));
        noPlace(all, "putWord", in -> in.putWord(4, 0, 70));
        noPlace(all, "putSign", in -> in.putSign(4, 0, 256));
        noPlace(all, "putRow", in -> in.putRow(4, 0, 70));
        noPlace(all, "putRowPart", in -> in.putRowPart(4, 0, 69, 3, 2));
        noPlace(all, "putPart", in -> in.putPart(4, 0, 1, 3, 2));
        noPlace(all, "putPart, other", in -> in.putPart(2, 0, 4, 3, 2));
        noPlace(all, "replace, word", in -> in.replace(4, 0, 0, 70));
        noPlace(all, "replace, cut", in -> in.replace(4, 3, 2, 0));
        noPlace(all, "replaceBy", in -> in.replaceBy(4, 3, 2, 1));
        noPlace(all, "replaceBy, other", in -> in.replaceBy(1, 3, 2, 4));
        noPlace(all, "delete", in -> in.delete(4, 3, 2));
        noPlace(all, "setSign", in -> in.setSign(4, 0, 256));
        noPlace(all, "setLength", in -> in.setLength(4, 241));
        noPlace(all, "part", in -> in.part(4, 3, 2));
        noPlace(all, "rest", in -> in.rest(4, -1));
        noPlace(all, "find", in -> in.find(4, 70, true));
        noPlace(all, "findFrom", in -> in.findFrom(4, 70, 0, true));
    }

    private static void placeAheadOfArgument(List<Refused> all) {
        noPlace(all, "putWord, at", in -> in.putWord(1, 7, 70));
        noPlace(all, "putSign, at", in -> in.putSign(1, 7, 256));
        noPlace(all, "putRow, at", in -> in.putRow(1, 7, 70));
        noPlace(all, "putRowPart, at and word", in -> in.putRowPart(1, 7, 70, 0, 0));
        noPlace(all, "putRowPart, at and part", in -> in.putRowPart(1, 7, 69, 3, 2));
        noPlace(all, "putPart, at", in -> in.putPart(1, 7, 1, 3, 2));
        noPlace(all, "setSign, at", in -> in.setSign(1, 6, 256));
    }

    private static void placeAheadOfTooLong(List<Refused> all) {
        noPlace(all, "putWord, too long", in -> in.putWord(0, 241, 69));
        noPlace(all, "putSign, too long", in -> in.putSign(0, 241, 0));
        noPlace(all, "putNumber, too long", in -> in.putNumber(0, 241, 0));
        noPlace(all, "putLong, too long", in -> in.putLong(0, -1, 0, 0));
        noPlace(all, "putTruth, too long", in -> in.putTruth(0, 241, true));
        noPlace(all, "putRow, too long", in -> in.putRow(0, -1, 69));
        noPlace(all, "putRowPart, too long", in -> in.putRowPart(0, 241, 69, 0, 6));
        noPlace(all, "putNothing, too long", in -> in.putNothing(0, 241, false));
        noPlace(all, "putRope, too long", in -> in.putRope(0, 241, 0));
        noPlace(all, "putPart, too long", in -> in.putPart(0, -1, 1, 0, 6));
    }

    private static void argumentAheadOfTooLong(List<Refused> all) {
        noArgument(all, "word", in -> in.word(0, 70));
        noArgument(all, "sign", in -> in.sign(0, 256));
        noArgument(all, "point", in -> in.point(0, 128));
        noArgument(all, "row", in -> in.row(0, -1));
        noArgument(all, "rowPart, word", in -> in.rowPart(0, 70, 0, 6));
        noArgument(all, "rowPart, part", in -> in.rowPart(0, 69, 0, 7));
        noArgument(all, "ropePart", in -> in.ropePart(0, 1, 0, 7));
        noArgument(all, "putWord", in -> in.putWord(0, 0, 70));
        noArgument(all, "putSign", in -> in.putSign(0, 240, 256));
        noArgument(all, "putRow", in -> in.putRow(0, 240, -1));
        noArgument(all, "putRowPart, word", in -> in.putRowPart(0, 0, 70, 0, 6));
        noArgument(all, "putRowPart, part", in -> in.putRowPart(0, 0, 69, 0, 7));
        noArgument(all, "putPart", in -> in.putPart(0, 0, 1, 0, 7));
        noArgument(all, "replace, word", in -> in.replace(0, 240, 240, 70));
        noArgument(all, "replace, from behind the end", in -> in.replace(0, 241, 241, 69));
        noArgument(all, "replace, from above to", in -> in.replace(0, 1, 0, 69));
        noArgument(all, "replaceBy, from behind the end", in -> in.replaceBy(0, 241, 241, 0));
        noArgument(all, "replaceBy, from above to", in -> in.replaceBy(0, 1, 0, 0));
    }

    private static void noPlace(List<Refused> all, String told, Edges.CallIn call) {
        all.add(new Refused(told, Due.NO_PLACE, call));
    }

    private static void noArgument(List<Refused> all, String told, Edges.CallIn call) {
        all.add(new Refused(told, Due.NO_ARGUMENT, call));
    }

    private static void tooLong(List<Refused> all, String told, Edges.CallIn call) {
        all.add(new Refused(told, Due.TOO_LONG, call));
    }

    /** Refused calls that fail at their last test only, so that all that could be changed ahead of it would be. */
    private static List<Refused> lateRefused() {
        List<Refused> all = new ArrayList<>();
        noArgument(all, "begin", in -> in.begin(1, 70));
        noPlace(all, "beginAs", in -> in.beginAs(1, 4));
        noArgument(all, "ensure", in -> in.ensure(1, 501));
        tooLong(all, "word", in -> in.word(0, 69));
        tooLong(all, "sign", in -> in.sign(0, 255));
        tooLong(all, "point", in -> in.point(0, 127));
        tooLong(all, "number", in -> in.number(0, Edges.LEAST));
        tooLong(all, "longNumber", in -> in.longNumber(0, Edges.LEAST, 0));
        tooLong(all, "truth", in -> in.truth(0, false));
        tooLong(all, "row", in -> in.row(0, 69));
        tooLong(all, "rowPart", in -> in.rowPart(0, 69, 0, 6));
        tooLong(all, "nothing", in -> in.nothing(0, true));
        tooLong(all, "rope", in -> in.rope(0, 0));
        tooLong(all, "ropePart", in -> in.ropePart(0, 0, 0, 240));
        tooLong(all, "putWord", in -> in.putWord(0, 0, 69));
        tooLong(all, "putSign", in -> in.putSign(0, 0, 255));
        tooLong(all, "putNumber", in -> in.putNumber(0, 0, Edges.LEAST));
        tooLong(all, "putLong", in -> in.putLong(0, 0, Edges.LEAST, 0));
        tooLong(all, "putTruth", in -> in.putTruth(0, 0, false));
        tooLong(all, "putRow", in -> in.putRow(0, 0, 69));
        tooLong(all, "putRowPart", in -> in.putRowPart(0, 0, 69, 0, 6));
        tooLong(all, "putNothing", in -> in.putNothing(0, 0, true));
        tooLong(all, "putRope", in -> in.putRope(0, 0, 0));
        tooLong(all, "putPart", in -> in.putPart(0, 0, 0, 0, 240));
        tooLong(all, "replace", in -> in.replace(0, 0, 5, 69));
        tooLong(all, "replaceBy", in -> in.replaceBy(0, 0, 239, 0));
        lateRefusedWithoutLength(all);
        return all;
    }

    private static void lateRefusedWithoutLength(List<Refused> all) {
        noArgument(all, "delete", in -> in.delete(1, 3, 2));
        noPlace(all, "deleteAt", in -> in.deleteAt(1, 6));
        noArgument(all, "setSign", in -> in.setSign(1, 0, 256));
        noPlace(all, "turn", in -> in.turn(4));
        noArgument(all, "setLength", in -> in.setLength(1, 241));
        noPlace(all, "text", in -> in.text(4));
        noPlace(all, "length", in -> in.length(4));
        noPlace(all, "at", in -> in.at(1, 6));
        noArgument(all, "part", in -> in.part(1, 0, 7));
        noArgument(all, "rest", in -> in.rest(1, 7));
        noArgument(all, "find", in -> in.find(1, 70, true));
        noArgument(all, "findFrom", in -> in.findFrom(1, 70, 0, false));
        noPlace(all, "findNothing", in -> in.findNothing(4, true));
        noPlace(all, "compare", in -> in.compare(1, 4));
        noPlace(all, "compareNothing", in -> in.compareNothing(4));
        noPlace(all, "hash", in -> in.hash(4));
        noArgument(all, "wordText", in -> in.wordText(70));
        noArgument(all, "house", in -> in.house(5));
    }

    private void changesNothing() {
        for (Refused refused : lateRefused()) {
            Signrope ropes = shelf();
            ropes.knock();
            ropes.findNothing(0, true);
            edges.refuses(ropes, refused.told, refused.want, refused.call);
            edges.is("behind a refused " + refused.told, afterwards(untouched()), afterwards(ropes));
        }
    }

    private static Signrope untouched() {
        Signrope ropes = shelf();
        ropes.knock();
        ropes.findNothing(0, true);
        return ropes;
    }

    /** What later calls make of the object: nothing that a refused one left behind may come to light in them. */
    private static String afterwards(Signrope ropes) {
        StringBuilder answers = new StringBuilder();
        answers.append(ropes.setLength(1, 9)).append(ropes.putNothing(1, 7, true)).append(ropes.word(2, 0));
        answers.append(ropes.number(2, -5)).append(ropes.replaceBy(3, 1, 1, 3)).append(ropes.delete(0, 230, 300));
        answers.append(ropes.rope(0, 3)).append(ropes.knock()).append(ropes.compareNothing(0));
        return answers.append(ropes.find(0, 68, true)).append(Due.stateOf(ropes)).toString();
    }
}
