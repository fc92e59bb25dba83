import java.util.ArrayList;
import java.util.List;

/**
 * Tests of boundary cases. Each stands under the promise (0: what the document says ahead of the promises) and the
 * document's own words that name the case, so that DocumentWords can see which sentence has no test.
 */
final class Edges {
    static final int FULL = 240;
    static final int LEAST = Integer.MIN_VALUE;
    static final int GREATEST = Integer.MAX_VALUE;

    /** What a test stands for: the document's words, and the promise in which they stand. */
    record Case(int promise, String words) { }

    interface CallIn {
        Object answer(Signrope ropes);
    }

    interface CallOfNumber {
        Object answer(Signrope ropes, int number);
    }

    interface CallAt {
        Object answer(Signrope ropes, int at);
    }

    private final Due due = new Due();
    private final List<Case> cases = new ArrayList<>();
    private String title = "";

    /** One boundary case: a test of its own, which goes to its end whatever the tests ahead of it showed. */
    void test(int promise, String saying, Runnable test) {
        cases.add(new Case(promise, saying));
        title = promise + " \"" + saying + "\"";
        int before = due.calls();
        try {
            test.run();
        } catch (RuntimeException thrown) {
            is("ends", "without an exception", thrown.toString());
        }
        if (due.calls() == before) {
            is("asks", "something", "nothing at all");
        }
        title = "";
    }

    void is(String told, Object want, Object got) {
        due.is((title + " " + told).trim(), want, got);
    }

    /** The call throws that exception, and what was stays. */
    void refuses(Signrope ropes, String told, Class<? extends RuntimeException> want, CallIn call) {
        due.refuses(ropes, title + " " + told, want, () -> call.answer(ropes));
    }

    /** In a new object, in one of some words and in a full one: each of the numbers is refused, and what was stays. */
    void refusesEach(Class<? extends RuntimeException> want, int[] numbers, CallOfNumber call) {
        for (Signrope ropes : new Signrope[] {new Signrope(), words(), full()}) {
            refusesEachIn(ropes, want, numbers, call);
        }
    }

    void refusesEachIn(Signrope ropes, Class<? extends RuntimeException> want, int[] numbers, CallOfNumber call) {
        for (int number : numbers) {
            refuses(ropes, "with " + number, want, in -> call.answer(in, number));
        }
    }

    void noRope(int promise, CallOfNumber call) {
        test(promise, "Throws `IndexOutOfBoundsException` if there is no such ROPE",
            () -> refusesEach(Due.NO_PLACE, Due.NO_ROPES, call));
    }

    void noRopeOfBoth(int promise, CallOfNumber first, CallOfNumber second) {
        test(promise, "Throws `IndexOutOfBoundsException` if there is no such ROPE (both)", () -> {
            refusesEach(Due.NO_PLACE, Due.NO_ROPES, first);
            refusesEach(Due.NO_PLACE, Due.NO_ROPES, second);
        });
    }

    void noWord(int promise, CallOfNumber call) {
        test(promise, "Throws `IllegalArgumentException` if word is no number of a WORD",
            () -> refusesEach(Due.NO_ARGUMENT, Due.NO_WORDS, call));
    }

    /** No place is below 0 or behind the end, in an empty rope 0, in "abcabc" and in a full one. */
    void refusesNoPlaces(CallOfNumber call) {
        refusesEachIn(new Signrope(), Due.NO_PLACE, new int[] {-1, 1, LEAST, GREATEST}, call);
        refusesEachIn(words(), Due.NO_PLACE, new int[] {-1, 7, LEAST, GREATEST}, call);
        refusesEachIn(full(), Due.NO_PLACE, new int[] {-1, 241, LEAST, GREATEST}, call);
    }

    /** No sign is below 0, at the end or behind it, in an empty rope 0, in "abcabc" and in a full one. */
    void refusesNoSigns(CallOfNumber call) {
        refusesEachIn(new Signrope(), Due.NO_PLACE, new int[] {-1, 0, 1, LEAST, GREATEST}, call);
        refusesEachIn(words(), Due.NO_PLACE, new int[] {-1, 6, 7, LEAST, GREATEST}, call);
        refusesEachIn(full(), Due.NO_PLACE, new int[] {-1, 240, 241, LEAST, GREATEST}, call);
    }

    /** The piece is laid behind up to 240 signs; with one sign more it is refused, and what was stays. */
    void layingStopsAtFull(String piece, CallIn call) {
        Signrope ropes = roomFor(piece.length());
        is("just full with \"" + piece + "\"", FULL, call.answer(ropes));
        is("text", Due.filledText(FULL - piece.length()) + piece, ropes.text(0));
        if (!piece.isEmpty()) {
            refuses(ropes, "\"" + piece + "\" to a full one", Due.TOO_LONG, call);
            refuses(roomFor(piece.length() - 1), "one sign too long with \"" + piece + "\"", Due.TOO_LONG, call);
        }
    }

    /** The same of what is put in: at the beginning, within and at the end. */
    void puttingStopsAtFull(String piece, CallAt call) {
        String text = Due.filledText(FULL - piece.length());
        for (int at : new int[] {0, 100, text.length()}) {
            Signrope ropes = roomFor(piece.length());
            is("just full with \"" + piece + "\" at " + at, FULL, call.answer(ropes, at));
            is("text", text.substring(0, at) + piece + text.substring(at), ropes.text(0));
            if (!piece.isEmpty()) {
                refuses(ropes, "\"" + piece + "\" into a full one at " + at, Due.TOO_LONG, in -> call.answer(in, at));
                refuses(roomFor(piece.length() - 1), "one sign too long with \"" + piece + "\" at " + at, Due.TOO_LONG,
                    in -> call.answer(in, at));
            }
        }
    }

    /** Rope 0 lacks just that many signs to be full; rope 1 is "abcabc", rope 2 "a", rope 3 empty. */
    static Signrope roomFor(int signs) {
        Signrope ropes = Due.ropesOf(0, 69, 1, 0);
        Due.fill(ropes, 0, FULL - signs);
        return ropes;
    }

    static Signrope words() {
        return Due.ropesOf(69, 62, 0, 68);
    }

    static Signrope full() {
        Signrope ropes = new Signrope();
        for (int rope = 0; rope < 4; rope++) {
            Due.fill(ropes, rope, FULL);
        }
        return ropes;
    }

    List<Case> cases() {
        return cases;
    }

    void end() {
        System.out.println(cases.size() + " tests of boundary cases");
        due.end();
    }
}
