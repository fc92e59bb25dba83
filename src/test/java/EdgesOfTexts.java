/** Boundary cases of what the document says ahead of its promises: numbers, texts, ropes. */
final class EdgesOfTexts {
    private static final String LETTERS = "abcdefghijklmnopqrstuvwxyz";
    private static final String[] NAMED = {"aa", "aba", "abab", "null", "true", "-1", " ", "zzzz", "{}", "abcabc"};

    private final Edges edges;

    EdgesOfTexts(Edges edges) {
        this.edges = edges;
    }

    void all() {
        edges.test(0, "at most 512 calls after it has been made", this::lastCall);
        edges.test(0, "NONE is -1", this::none);
        edges.test(0, "REFUSED is -9: it is told where the library refuses; nothing changes then but house() 2",
            this::refused);
        edges.test(0, "(exceptions go ahead of it)", this::exceptionsAheadOfRefused);
        edges.test(0, "WORDS by numbers 0 to 69", this::wordNumbers);
        edges.test(0, "0 to 59: a word of (number MOD 4) letters; the k-th of these (from 0 on) is the letter with the "
            + "number (number / 4, rounded down, and k together) MOD 26, of \"a\" (0) to \"z\" (25)", this::letterWords);
        edges.test(0, "60 \"aa\", 61 \"aba\", 62 \"abab\", 63 \"null\", 64 \"true\", 65 \"-1\", 66 \" \", 67 \"zzzz\", "
            + "68 \"{}\", 69 \"abcabc\"", this::namedWords);
        edges.test(0, "without that at the second one", this::partEndsAhead);
        edges.test(0, "both are 0 to how long it is", this::partPlaces);
        edges.test(0, "the first one not above the second one", this::partOrder);
        edges.test(0, "A LONG is told by two numbers: the first one * 4294967296 and the second one, with its sign, "
            + "together", this::longSign);
        edges.test(0, "(64 bits, wrapping around)", this::longWraps);
        edges.test(0, "Numbers stand as their digits, \"-\" ahead, if below 0", this::digits);
        edges.test(0, "the one with the smaller code is less", this::lessByCode);
        edges.test(0, "a text that is the beginning of another one is less than that", this::lessByLength);
        edges.test(0, "HASH of a text: 0;", this::hashOfNothing);
        edges.test(0, "sign by sign 31 times that and the code of the sign together (32 bits, wrapping around)",
            this::hashWraps);
        edges.test(0, "ROPES 0 to 3", this::ropeNumbers);
        edges.test(0, "each with a TEXT (at first \"\")", this::atFirstEmpty);
        edges.test(0, "at most 240 signs: what would make it longer is refused by an IllegalStateException",
            this::mostSigns);
        edges.test(0, "A PLACE of a ROPE is 0 to how long its TEXT is (for what is put in)", this::places);
        edges.test(0, "a SIGN's place one less at most", this::placesOfSigns);
    }

    private void lastCall() {
        Signrope ropes = new Signrope();
        for (int call = 1; call < 512; call++) {
            edges.is("call " + call, call % 2 == 0 ? call / 2 : 0, call % 2 == 0 ? ropes.knock() : ropes.delete(0, 0, 0));
        }
        edges.is("the 512th call", 256, ropes.house(4));
    }

    private void none() {
        Signrope ropes = Edges.words();
        edges.is("first", -1, ropes.find(0, 66, false));
        edges.is("last", -1, ropes.findFrom(0, 2, -1, true));
    }

    private void refused() {
        for (Signrope ropes : new Signrope[] {new Signrope(), Edges.words(), Edges.full()}) {
            String before = withoutRefusals(ropes);
            edges.is("findNothing", -9, ropes.findNothing(0, true));
            edges.is("house 2", 1, ropes.house(2));
            edges.is("compareNothing", -9, ropes.compareNothing(0));
            edges.is("house 2", 2, ropes.house(2));
            edges.is("nothing else changes", before, withoutRefusals(ropes));
        }
    }

    private static String withoutRefusals(Signrope ropes) {
        StringBuilder state = new StringBuilder();
        for (int rope = 0; rope < 4; rope++) {
            state.append(ropes.text(rope)).append('|').append(ropes.hash(rope)).append('|');
        }
        for (int what : new int[] {0, 1, 3, 4}) {
            state.append(ropes.house(what)).append('|');
        }
        return state.append(ropes.isSound()).toString();
    }

    private void exceptionsAheadOfRefused() {
        edges.refusesEach(Due.NO_PLACE, Due.NO_ROPES, (ropes, rope) -> ropes.findNothing(rope, false));
        edges.refusesEach(Due.NO_PLACE, Due.NO_ROPES, (ropes, rope) -> ropes.compareNothing(rope));
    }

    private void wordNumbers() {
        Signrope ropes = new Signrope();
        edges.is("the least", "", ropes.wordText(0));
        edges.is("the greatest", "abcabc", ropes.wordText(69));
        edges.refusesEach(Due.NO_ARGUMENT, new int[] {-1, 70, Edges.LEAST, Edges.GREATEST}, Signrope::wordText);
    }

    private void letterWords() {
        Signrope ropes = new Signrope();
        for (int word = 0; word <= 59; word++) {
            StringBuilder want = new StringBuilder();
            for (int k = 0; k < word % 4; k++) {
                want.append(LETTERS.charAt((word / 4 + k) % 26));
            }
            edges.is("word " + word, want.toString(), ropes.wordText(word));
        }
        edges.is("so 0 is", "", ropes.wordText(0));
        edges.is("the last one of these", "opq", ropes.wordText(59));
    }

    private void namedWords() {
        Signrope ropes = new Signrope();
        for (int k = 0; k < NAMED.length; k++) {
            edges.is("word " + (60 + k), NAMED[k], ropes.wordText(60 + k));
        }
    }

    private void partEndsAhead() {
        Signrope ropes = Edges.words();
        edges.is("one sign", "a", ropes.part(0, 0, 1));
        edges.is("the last sign", "c", ropes.part(0, 5, 6));
        edges.is("no sign", "", ropes.part(0, 2, 2));
    }

    private void partPlaces() {
        Signrope ropes = Edges.words();
        edges.is("all", "abcabc", ropes.part(0, 0, 6));
        edges.is("none at the end", "", ropes.part(0, 6, 6));
        edges.is("none of an empty one", "", ropes.part(2, 0, 0));
        edges.is("all of a full one", Due.filledText(240), Edges.full().part(0, 0, 240));
        edges.refuses(ropes, "first below 0", Due.NO_ARGUMENT, in -> in.part(0, -1, 0));
        edges.refuses(ropes, "first behind the end", Due.NO_ARGUMENT, in -> in.part(0, 7, 7));
        edges.refuses(ropes, "second behind the end", Due.NO_ARGUMENT, in -> in.part(0, 0, 7));
        edges.refuses(ropes, "second behind the end of an empty one", Due.NO_ARGUMENT, in -> in.part(2, 0, 1));
        edges.refuses(Edges.full(), "behind the end of a full one", Due.NO_ARGUMENT, in -> in.part(0, 240, 241));
    }

    private void partOrder() {
        Signrope ropes = Edges.words();
        edges.is("the same", "", ropes.part(0, 3, 3));
        edges.refuses(ropes, "one above", Due.NO_ARGUMENT, in -> in.part(0, 4, 3));
        edges.refuses(ropes, "at the end", Due.NO_ARGUMENT, in -> in.part(0, 6, 5));
        edges.refuses(ropes, "far above", Due.NO_ARGUMENT, in -> in.part(0, 6, Edges.LEAST));
    }

    private void longSign() {
        longStands("0", 0, 0);
        longStands("-1", 0, -1);
        longStands("4294967295", 1, -1);
        longStands("-4294967297", -1, -1);
        longStands("-4294967295", -1, 1);
        longStands("2147483648", 1, Edges.LEAST);
        longStands("9223372032559808512", Edges.GREATEST, 0);
        longStands("9223372030412324864", Edges.GREATEST, Edges.LEAST);
    }

    private void longWraps() {
        longStands("-9223372036854775808", Edges.LEAST, 0);
        longStands("9223372036854775807", Edges.LEAST, -1);
        longStands("9223372034707292160", Edges.LEAST, Edges.LEAST);
        longStands("-9223372034707292161", Edges.LEAST, Edges.GREATEST);
        longStands("9223372036854775806", Edges.LEAST, -2);
    }

    private void longStands(String want, int high, int low) {
        Signrope ropes = Edges.words();
        edges.is(high + ", " + low, 6 + want.length(), ropes.longNumber(0, high, low));
        edges.is("text", "abcabc" + want, ropes.text(0));
    }

    private void digits() {
        for (int number : new int[] {0, -1, 1, 9, 10, -9, -10, Edges.LEAST, Edges.LEAST + 1, Edges.GREATEST}) {
            Signrope ropes = new Signrope();
            ropes.number(0, number);
            edges.is("number", String.valueOf(number), ropes.text(0));
        }
        long power = 1;
        for (int zeros = 0; zeros <= 18; zeros++, power *= 10) {
            for (long number : new long[] {power - 1, power, -power, 1 - power}) {
                longStands(String.valueOf(number), highOf(number), (int) number);
            }
        }
    }

    /** The second number bears its sign, so the first one makes up for it. */
    private static int highOf(long number) {
        return (int) ((number - (int) number) >> 32);
    }

    private void lessByCode() {
        Signrope ropes = Due.ropesOf(69, 69, 69, 69);
        ropes.setSign(0, 5, 0);
        ropes.setSign(1, 5, 1);
        ropes.setSign(2, 5, 254);
        ropes.setSign(3, 5, 255);
        for (int rope = 0; rope < 3; rope++) {
            edges.is("less " + rope, -1, ropes.compare(rope, rope + 1));
            edges.is("greater " + rope, 1, ropes.compare(rope + 1, rope));
        }
        edges.is("127 is less than 128", -1, signsTwo(127, 128).compare(0, 1));
        edges.is("0 is less than 255", -1, signsTwo(0, 255).compare(0, 1));
        Signrope longer = Due.ropesOf(5, 69, 0, 0);
        edges.is("the first sign that differs, not the length", 1, longer.compare(0, 1));
    }

    private static Signrope signsTwo(int first, int second) {
        Signrope ropes = new Signrope();
        ropes.sign(0, first);
        ropes.sign(1, second);
        return ropes;
    }

    private void lessByLength() {
        Signrope ropes = Due.ropesOf(0, 1, 60, 0);
        edges.is("\"\" and one sign", -1, ropes.compare(0, 1));
        edges.is("one sign and \"\"", 1, ropes.compare(1, 0));
        edges.is("one and two", -1, ropes.compare(1, 2));
        ropes.setLength(3, 1);
        edges.is("\"\" and the sign 0", -1, ropes.compare(0, 3));
        Due.fill(ropes, 1, 240);
        Due.fill(ropes, 2, 239);
        edges.is("240 and 239", 1, ropes.compare(1, 2));
        Signrope cut = Due.ropesOf(67, 69, 0, 0);
        cut.putWord(0, 0, 2);
        cut.setLength(0, 2);
        edges.is("what was cut off counts no more", -1, cut.compare(0, 1));
        edges.is("nor in the other one", 1, cut.compare(1, 0));
    }

    private void hashOfNothing() {
        Signrope ropes = new Signrope();
        edges.is("empty", 0, ropes.hash(0));
        ropes.sign(0, 0);
        edges.is("the sign 0 alone", 0, ropes.hash(0));
        ropes.setSign(0, 0, 255);
        edges.is("the sign 255 alone", 255, ropes.hash(0));
    }

    private void hashWraps() {
        Signrope ropes = new Signrope();
        int want = 0;
        for (int k = 0; k < 240; k++) {
            ropes.sign(0, 255 - k % 7);
            want = 31 * want + 255 - k % 7;
            edges.is(k + 1 + " signs", want, ropes.hash(0));
        }
    }

    private void ropeNumbers() {
        Signrope ropes = new Signrope();
        edges.is("the first", 0, ropes.begin(0, 2));
        edges.is("the last", 0, ropes.begin(3, 3));
        edges.is("texts", "ab|||abc",
            ropes.text(0) + "|" + ropes.text(1) + "|" + ropes.text(2) + "|" + ropes.text(3));
        edges.refusesEach(Due.NO_PLACE, new int[] {-1, 4, Edges.LEAST, Edges.GREATEST}, Signrope::length);
    }

    private void atFirstEmpty() {
        Signrope ropes = new Signrope();
        for (int rope = 0; rope < 4; rope++) {
            edges.is("rope " + rope, "", ropes.text(rope));
        }
    }

    private void mostSigns() {
        Signrope ropes = Edges.full();
        for (int rope = 0; rope < 4; rope++) {
            int full = rope;
            edges.is("full " + rope, 240, ropes.length(rope));
            edges.refuses(ropes, "one more in " + rope, Due.TOO_LONG, in -> in.sign(full, 0));
        }
        edges.is("one goes", 239, ropes.deleteAt(3, 0));
        edges.is("one comes", 240, ropes.sign(3, 0));
        edges.refuses(ropes, "one more again", Due.TOO_LONG, in -> in.sign(3, 0));
    }

    private void places() {
        Signrope ropes = Edges.words();
        edges.is("at 0", 7, ropes.putSign(0, 0, '<'));
        edges.is("at the end", 8, ropes.putSign(0, 7, '>'));
        edges.is("text", "<abcabc>", ropes.text(0));
        edges.is("in an empty one", 1, ropes.putSign(2, 0, '!'));
        edges.refusesNoPlaces((in, at) -> in.putSign(0, at, '?'));
    }

    private void placesOfSigns() {
        Signrope ropes = Edges.words();
        edges.is("the first", 97, ropes.at(0, 0));
        edges.is("the last", 99, ropes.at(0, 5));
        edges.is("the last of a full one", 99, Edges.full().at(0, 239));
        edges.refusesNoSigns((in, at) -> in.at(0, at));
    }
}
