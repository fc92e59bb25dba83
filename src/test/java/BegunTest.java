/** Promises 1 to 4: a new object, begin, beginAs, ensure. */
public final class BegunTest {
    private static final Due due = new Due();

    public static void main(String[] args) {
        newObject();
        begin();
        beginAs();
        ensure();
        due.end();
    }

    private static void newObject() {
        Signrope ropes = new Signrope();
        for (int rope = 0; rope < 4; rope++) {
            due.is("1: text of a new rope", "", ropes.text(rope));
            due.is("1: length of a new rope", 0, ropes.length(rope));
        }
        due.is("1: house", "0 0 0 6 0", ropes.house(0) + " " + ropes.house(1) + " " + ropes.house(2) + " "
            + ropes.house(3) + " " + ropes.house(4));
        Signrope other = new Signrope();
        ropes.begin(0, 3);
        ropes.knock();
        due.is("1: another object has its own ropes", "", other.text(0));
        due.is("1: another object has its own knocks", 0, other.house(1));
    }

    private static void begin() {
        Signrope ropes = new Signrope();
        due.is("2: begin anew", 0, ropes.begin(0, 69));
        due.is("2: text", "abcabc", ropes.text(0));
        due.is("2: begin again", 6, ropes.begin(0, 5));
        due.is("2: text again", "b", ropes.text(0));
        due.is("2: begin with nothing in it", 1, ropes.begin(0, 0));
        due.is("2: empty", "", ropes.text(0));
        due.is("2: the last rope", 0, ropes.begin(3, 62));
        due.is("2: the last rope's text", "abab", ropes.text(3));
        due.is("2: acts", 4, ropes.house(4));
        due.refusesEach(ropes, "2: begin at", Due.NO_PLACE, Due.NO_ROPES, rope -> ropes.begin(rope, 1));
        due.refusesEach(ropes, "2: begin with", Due.NO_ARGUMENT, Due.NO_WORDS, word -> ropes.begin(3, word));
        due.refuses(ropes, "2: both wrong", Due.NO_PLACE, () -> ropes.begin(4, 70));
    }

    private static void beginAs() {
        Signrope ropes = Due.ropesOf(69, 2, 0, 0);
        due.is("3: as another", 2, ropes.beginAs(1, 0));
        due.is("3: its text", "abcabc", ropes.text(1));
        ropes.setSign(0, 0, 'x');
        due.is("3: a text of its own", "abcabc", ropes.text(1));
        due.is("3: as itself", 6, ropes.beginAs(1, 1));
        due.is("3: still", "abcabc", ropes.text(1));
        due.is("3: as an empty one", 6, ropes.beginAs(1, 2));
        due.is("3: empty", "", ropes.text(1));
        due.is("3: acts", 8, ropes.house(4));
        due.refusesEach(ropes, "3: beginAs at", Due.NO_PLACE, Due.NO_ROPES, rope -> ropes.beginAs(rope, 0));
        due.refusesEach(ropes, "3: beginAs of", Due.NO_PLACE, Due.NO_ROPES, rope -> ropes.beginAs(0, rope));
    }

    private static void ensure() {
        Signrope ropes = Due.ropesOf(69, 0, 0, 0);
        String before = Due.stateOf(ropes);
        for (int many : new int[] {-9, -1, 0, 1, 240, 500}) {
            due.is("4: ensure " + many, 6, ropes.ensure(0, many));
            due.is("4: nothing shows", before, Due.stateOf(ropes));
        }
        due.refusesEach(ropes, "4: ensure", Due.NO_ARGUMENT, new int[] {-10, 501, Integer.MIN_VALUE, Integer.MAX_VALUE},
            many -> ropes.ensure(0, many));
        due.refuses(ropes, "4: ensure at -1", Due.NO_PLACE, () -> ropes.ensure(-1, 0));
        due.refuses(ropes, "4: ensure at 4", Due.NO_PLACE, () -> ropes.ensure(4, 501));
    }
}
