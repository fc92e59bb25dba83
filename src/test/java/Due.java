/** Counts the calls of one test whose answer is not the one that is due. */
final class Due {
    interface Call {
        Object answer();
    }

    interface CallOf {
        Object answer(int number);
    }

    static final Class<? extends RuntimeException> NO_PLACE = IndexOutOfBoundsException.class;
    static final Class<? extends RuntimeException> NO_ARGUMENT = IllegalArgumentException.class;
    static final Class<? extends RuntimeException> TOO_LONG = IllegalStateException.class;

    static final int[] NO_ROPES = {-1, 4, Integer.MIN_VALUE, Integer.MAX_VALUE};
    static final int[] NO_WORDS = {-1, 70, Integer.MIN_VALUE, Integer.MAX_VALUE};
    static final int[] NO_CODES = {-1, 256, Integer.MIN_VALUE, Integer.MAX_VALUE};
    /** Pairs of places that tell no part of "abcabc". */
    static final int[][] NO_PARTS_OF_SIX = {
        {-1, 2}, {0, 7}, {3, 2}, {7, 7}, {Integer.MIN_VALUE, Integer.MAX_VALUE}};

    private int calls;
    private int wrong;

    int calls() {
        return calls;
    }

    int wrong() {
        return wrong;
    }

    void is(String told, Object want, Object got) {
        calls++;
        if (!want.equals(got)) {
            wrong++;
            System.out.println(told + " answered <" + got + ">, due is <" + want + ">");
        }
    }

    /** The call throws just that exception, and nothing of the ropes changes by it. */
    void refuses(Signrope ropes, String told, Class<? extends RuntimeException> want, Call call) {
        String before = stateOf(ropes);
        Object got;
        try {
            got = call.answer();
        } catch (RuntimeException thrown) {
            got = thrown.getClass();
        }
        is(told, want, got);
        is(told + " leaves", before, stateOf(ropes));
    }

    void refusesEach(Signrope ropes, String told, Class<? extends RuntimeException> want, int[] numbers, CallOf call) {
        for (int number : numbers) {
            refuses(ropes, told + " " + number, want, () -> call.answer(number));
        }
    }

    static String stateOf(Signrope ropes) {
        StringBuilder state = new StringBuilder();
        for (int rope = 0; rope < 4; rope++) {
            state.append(rope).append('=').append(ropes.text(rope)).append(' ');
        }
        for (int what = 0; what < 5; what++) {
            state.append("house ").append(ropes.house(what)).append(' ');
        }
        return state.append(ropes.digest()).toString();
    }

    /** An object whose ropes 0 to 3 bear the words. */
    static Signrope ropesOf(int word0, int word1, int word2, int word3) {
        Signrope ropes = new Signrope();
        int[] words = {word0, word1, word2, word3};
        for (int rope = 0; rope < words.length; rope++) {
            ropes.begin(rope, words[rope]);
        }
        return ropes;
    }

    /** A rope is begun with that many signs, filledText: in few calls, as an object has 512 and no more. */
    static void fill(Signrope ropes, int rope, int signs) {
        ropes.begin(rope, 69);
        while (ropes.length(rope) * 2 <= signs) {
            ropes.rope(rope, rope);
        }
        int has = ropes.length(rope);
        if (signs < has) {
            ropes.setLength(rope, signs);
        } else {
            ropes.ropePart(rope, rope, 0, signs - has);
        }
    }

    /** "abcabc" again and again, that many signs in all. */
    static String filledText(int signs) {
        return "abc".repeat(signs / 3 + 1).substring(0, signs);
    }

    void end() {
        System.out.println(calls - wrong + " answers as due, " + wrong + " not");
        if (wrong != 0) {
            System.exit(1);
        }
    }
}
