/** Promises 45 to 48: knock, house, isSound, digest. */
public final class WholeTest {
    private static final Due due = new Due();

    public static void main(String[] args) {
        knock();
        house();
        isSound();
        digest();
        due.end();
    }

    private static void knock() {
        Signrope ropes = new Signrope();
        due.is("45: first", 1, ropes.knock());
        due.is("45: second", 2, ropes.knock());
        due.is("45: third", 3, ropes.knock());
        due.is("45: house", "0 3 0 6 0", houseOf(ropes));
    }

    private static void house() {
        Signrope ropes = Due.ropesOf(69, 2, 3, 0);
        due.is("46: all texts differ", "11 0 0 0 4", houseOf(ropes));
        ropes.beginAs(1, 0);
        due.is("46: a pair", "15 0 0 1 5", houseOf(ropes));
        ropes.beginAs(2, 0);
        due.is("46: three pairs", "18 0 0 3 6", houseOf(ropes));
        ropes.begin(1, 0);
        due.is("46: two and two", "12 0 0 2 7", houseOf(ropes));
        ropes.beginAs(1, 0);
        ropes.beginAs(3, 0);
        due.is("46: all the same", "24 0 0 6 9", houseOf(ropes));
        ropes.findNothing(0, true);
        ropes.ensure(0, 5);
        ropes.compareNothing(1);
        ropes.knock();
        ropes.text(0);
        ropes.hash(0);
        due.is("46: what is asked is no act", "24 1 2 6 9", houseOf(ropes));
        ropes.delete(0, 0, 0);
        ropes.word(0, 0);
        ropes.putRope(0, 0, 0);
        due.is("46: acts that leave the text", "30 1 2 3 12", houseOf(ropes));
        due.refusesEach(ropes, "46: house", Due.NO_ARGUMENT, new int[] {-1, 5, Integer.MIN_VALUE, Integer.MAX_VALUE},
            what -> ropes.house(what));
    }

    private static void isSound() {
        Signrope ropes = new Signrope();
        due.is("47: empty", true, ropes.isSound());
        ropes.begin(0, 61);
        ropes.begin(1, 69);
        ropes.begin(2, 60);
        due.is("47: some words", true, ropes.isSound());
        for (int rope = 0; rope < 4; rope++) {
            Due.fill(ropes, rope, 240 - rope / 2);
        }
        String before = Due.stateOf(ropes);
        due.is("47: full", true, ropes.isSound());
        due.is("47: nothing changes", before, Due.stateOf(ropes));
        ropes.setSign(0, 0, 255);
        ropes.setSign(0, 239, 0);
        due.is("47: with the least and greatest sign", true, ropes.isSound());
    }

    private static void digest() {
        Signrope ropes = new Signrope();
        due.is("48: of a new object", sumOf(ropes), ropes.digest());
        ropes.begin(0, 69);
        ropes.word(0, 66);
        ropes.word(0, 69);
        ropes.begin(1, 5);
        ropes.begin(2, 66);
        ropes.knock();
        ropes.knock();
        ropes.findNothing(1, false);
        String before = Due.stateOf(ropes);
        due.is("48: of some texts", sumOf(ropes), ropes.digest());
        due.is("48: nothing changes", before, Due.stateOf(ropes));
        ropes.setLength(3, 240);
        due.is("48: of a long one", sumOf(ropes), ropes.digest());
    }

    private static String houseOf(Signrope ropes) {
        StringBuilder house = new StringBuilder();
        for (int what = 0; what < 5; what++) {
            house.append(what == 0 ? "" : " ").append(ropes.house(what));
        }
        return house.toString();
    }

    private static long[] partsOf(Signrope ropes) {
        long[] parts = new long[36];
        int count = 0;
        for (int what = 0; what < 5; what++) {
            parts[count++] = ropes.house(what);
        }
        for (int rope = 0; rope < 4; rope++) {
            String text = ropes.text(rope);
            parts[count++] = text.length();
            parts[count++] = text.hashCode();
            parts[count++] = text.indexOf("a");
            parts[count++] = text.lastIndexOf("a");
            parts[count++] = text.indexOf(" ");
            parts[count++] = text.lastIndexOf(" ");
        }
        for (int[] two : new int[][] {{0, 1}, {0, 2}, {0, 3}, {1, 2}, {1, 3}, {2, 3}}) {
            parts[count++] = Integer.signum(ropes.text(two[0]).compareTo(ropes.text(two[1])));
        }
        parts[count] = 1;
        return parts;
    }

    private static long sumOf(Signrope ropes) {
        long sum = 7785;
        for (long part : partsOf(ropes)) {
            sum = sum * 31 + part;
        }
        return sum;
    }
}
