/** Ropes of signs: four texts that are changed by pieces, asked and turned. README.md tells how to use it. */
public final class Signrope {
    private static final int NONE = -1;
    private static final int REFUSED = -9;
    private static final int ROPES = 4;
    private static final int MOST_SIGNS = 240;
    // Two whole ropes are joined where isSound() looks at each two.
    private static final int ROOM = 2 * MOST_SIGNS;
    private static final int WORDS = 70;
    private static final int LETTER_WORDS = 60;
    private static final int LETTERS = 26;
    private static final int MOST_CODE = 255;
    private static final int MOST_POINT = 127;
    private static final int LEAST_ENSURED = -9;
    private static final int MOST_ENSURED = 500;
    private static final int HOUSE_NUMBERS = 5;
    private static final int MOST_DIGITS = 19;

    private final Text[] ropes;
    // Whatever is laid, put in or looked for is copied to the piece first: so a rope can take itself.
    private final Text piece;
    // Rows that only isSound() writes: made once, since nothing that a call makes is ever given back.
    private final Text turned;
    private final Text joined;
    private final Text anew;
    private int knocks;
    private int refusals;
    private int acts;

    public Signrope() {
        ropes = new Text[ROPES];
        for (int rope = 0; rope < ROPES; rope++) {
            ropes[rope] = new Text();
        }
        piece = new Text();
        turned = new Text();
        joined = new Text();
        anew = new Text();
    }

    // ---- begun

    public int begin(int rope, int word) throws IndexOutOfBoundsException, IllegalArgumentException {
        Text text = ropeOf(rope);
        takeWord(word);
        return beginWithPiece(text);
    }

    public int beginAs(int rope, int other) throws IndexOutOfBoundsException {
        Text text = ropeOf(rope);
        takeText(ropeOf(other));
        return beginWithPiece(text);
    }

    public int ensure(int rope, int many) throws IndexOutOfBoundsException, IllegalArgumentException {
        Text text = ropeOf(rope);
        if (many < LEAST_ENSURED || many > MOST_ENSURED) {
            throw new IllegalArgumentException("room is made for -9 to 500 signs");
        }
        return text.size();
    }

    // ---- laid behind

    public int word(int rope, int word)
            throws IndexOutOfBoundsException, IllegalArgumentException, IllegalStateException {
        Text text = ropeOf(rope);
        takeWord(word);
        return layPiece(text);
    }

    public int sign(int rope, int code)
            throws IndexOutOfBoundsException, IllegalArgumentException, IllegalStateException {
        Text text = ropeOf(rope);
        takeSign(code, MOST_CODE);
        return layPiece(text);
    }

    public int point(int rope, int code)
            throws IndexOutOfBoundsException, IllegalArgumentException, IllegalStateException {
        Text text = ropeOf(rope);
        takeSign(code, MOST_POINT);
        return layPiece(text);
    }

    public int number(int rope, int number) throws IndexOutOfBoundsException, IllegalStateException {
        Text text = ropeOf(rope);
        takeNumber(number);
        return layPiece(text);
    }

    public int longNumber(int rope, int high, int low) throws IndexOutOfBoundsException, IllegalStateException {
        Text text = ropeOf(rope);
        takeNumber(longOf(high, low));
        return layPiece(text);
    }

    public int truth(int rope, boolean is) throws IndexOutOfBoundsException, IllegalStateException {
        Text text = ropeOf(rope);
        takeTruth(is);
        return layPiece(text);
    }

    public int row(int rope, int word)
            throws IndexOutOfBoundsException, IllegalArgumentException, IllegalStateException {
        Text text = ropeOf(rope);
        takeWord(word);
        return layPiece(text);
    }

    public int rowPart(int rope, int word, int from, int to)
            throws IndexOutOfBoundsException, IllegalArgumentException, IllegalStateException {
        Text text = ropeOf(rope);
        takeWordPart(word, from, to);
        return layPiece(text);
    }

    public int nothing(int rope, boolean isSequence) throws IndexOutOfBoundsException, IllegalStateException {
        Text text = ropeOf(rope);
        takeNothing();
        return layPiece(text);
    }

    public int rope(int rope, int other) throws IndexOutOfBoundsException, IllegalStateException {
        Text text = ropeOf(rope);
        takeText(ropeOf(other));
        return layPiece(text);
    }

    public int ropePart(int rope, int other, int from, int to)
            throws IndexOutOfBoundsException, IllegalArgumentException, IllegalStateException {
        Text text = ropeOf(rope);
        takePart(ropeOf(other), from, to);
        return layPiece(text);
    }

    // ---- put in

    public int putWord(int rope, int at, int word)
            throws IndexOutOfBoundsException, IllegalArgumentException, IllegalStateException {
        Text text = ropeWithPlace(rope, at);
        takeWord(word);
        return putPiece(text, at);
    }

    public int putSign(int rope, int at, int code)
            throws IndexOutOfBoundsException, IllegalArgumentException, IllegalStateException {
        Text text = ropeWithPlace(rope, at);
        takeSign(code, MOST_CODE);
        return putPiece(text, at);
    }

    public int putNumber(int rope, int at, int number) throws IndexOutOfBoundsException, IllegalStateException {
        Text text = ropeWithPlace(rope, at);
        takeNumber(number);
        return putPiece(text, at);
    }

    public int putLong(int rope, int at, int high, int low)
            throws IndexOutOfBoundsException, IllegalStateException {
        Text text = ropeWithPlace(rope, at);
        takeNumber(longOf(high, low));
        return putPiece(text, at);
    }

    public int putTruth(int rope, int at, boolean is) throws IndexOutOfBoundsException, IllegalStateException {
        Text text = ropeWithPlace(rope, at);
        takeTruth(is);
        return putPiece(text, at);
    }

    public int putRow(int rope, int at, int word)
            throws IndexOutOfBoundsException, IllegalArgumentException, IllegalStateException {
        Text text = ropeWithPlace(rope, at);
        takeWord(word);
        return putPiece(text, at);
    }

    public int putRowPart(int rope, int at, int word, int from, int to)
            throws IndexOutOfBoundsException, IllegalArgumentException, IllegalStateException {
        Text text = ropeWithPlace(rope, at);
        takeWordPart(word, from, to);
        return putPiece(text, at);
    }

    public int putNothing(int rope, int at, boolean isSequence)
            throws IndexOutOfBoundsException, IllegalStateException {
        Text text = ropeWithPlace(rope, at);
        takeNothing();
        return putPiece(text, at);
    }

    public int putRope(int rope, int at, int other) throws IndexOutOfBoundsException, IllegalStateException {
        Text text = ropeWithPlace(rope, at);
        takeText(ropeOf(other));
        return putPiece(text, at);
    }

    public int putPart(int rope, int at, int other, int from, int to)
            throws IndexOutOfBoundsException, IllegalArgumentException, IllegalStateException {
        Text text = ropeWithPlace(rope, at);
        takePart(ropeOf(other), from, to);
        return putPiece(text, at);
    }

    // ---- changed

    public int replace(int rope, int from, int to, int word)
            throws IndexOutOfBoundsException, IllegalArgumentException, IllegalStateException {
        Text text = ropeOf(rope);
        int end = endOfCut(text, from, to);
        takeWord(word);
        return exchange(text, from, end);
    }

    public int replaceBy(int rope, int from, int to, int other)
            throws IndexOutOfBoundsException, IllegalArgumentException, IllegalStateException {
        Text text = ropeOf(rope);
        takeText(ropeOf(other));
        return exchange(text, from, endOfCut(text, from, to));
    }

    public int delete(int rope, int from, int to) throws IndexOutOfBoundsException, IllegalArgumentException {
        Text text = ropeOf(rope);
        text.cutOut(from, endOfCut(text, from, to));
        acts++;
        return text.size();
    }

    public int deleteAt(int rope, int at) throws IndexOutOfBoundsException {
        Text text = ropeWithSign(rope, at);
        text.cutOut(at, at + 1);
        acts++;
        return text.size();
    }

    public int setSign(int rope, int at, int code) throws IndexOutOfBoundsException, IllegalArgumentException {
        Text text = ropeWithSign(rope, at);
        requireCode(code, MOST_CODE);
        int before = text.signAt(at);
        text.changeAt(at, (char) code);
        acts++;
        return before;
    }

    public int turn(int rope) throws IndexOutOfBoundsException {
        Text text = ropeOf(rope);
        text.turnRound();
        acts++;
        return text.size();
    }

    public int setLength(int rope, int length) throws IndexOutOfBoundsException, IllegalArgumentException {
        Text text = ropeOf(rope);
        if (length < 0 || length > MOST_SIGNS) {
            throw new IllegalArgumentException("a text has 0 to 240 signs");
        }
        int before = text.size();
        text.resize(length);
        acts++;
        return before;
    }

    // ---- what is asked

    public String text(int rope) throws IndexOutOfBoundsException {
        Text text = ropeOf(rope);
        return text.written(0, text.size());
    }

    public int length(int rope) throws IndexOutOfBoundsException {
        return ropeOf(rope).size();
    }

    public int at(int rope, int place) throws IndexOutOfBoundsException {
        return ropeWithSign(rope, place).signAt(place);
    }

    public String part(int rope, int from, int to) throws IndexOutOfBoundsException, IllegalArgumentException {
        Text text = ropeOf(rope);
        requirePart(text, from, to);
        return text.written(from, to);
    }

    public String rest(int rope, int from) throws IndexOutOfBoundsException, IllegalArgumentException {
        Text text = ropeOf(rope);
        requirePart(text, from, text.size());
        return text.written(from, text.size());
    }

    public int find(int rope, int word, boolean isLast) throws IndexOutOfBoundsException, IllegalArgumentException {
        Text text = ropeOf(rope);
        takeWord(word);
        return isLast ? text.lastPlace(piece, text.size()) : text.firstPlace(piece, 0);
    }

    public int findFrom(int rope, int word, int from, boolean isLast)
            throws IndexOutOfBoundsException, IllegalArgumentException {
        Text text = ropeOf(rope);
        takeWord(word);
        return isLast ? text.lastPlace(piece, from) : text.firstPlace(piece, from);
    }

    public int findNothing(int rope, boolean isLast) throws IndexOutOfBoundsException {
        ropeOf(rope);
        refusals++;
        return REFUSED;
    }

    public int compare(int rope, int other) throws IndexOutOfBoundsException {
        return ropeOf(rope).orderTo(ropeOf(other));
    }

    public int compareNothing(int rope) throws IndexOutOfBoundsException {
        ropeOf(rope);
        refusals++;
        return REFUSED;
    }

    public int hash(int rope) throws IndexOutOfBoundsException {
        return ropeOf(rope).sum();
    }

    public String wordText(int word) throws IllegalArgumentException {
        takeWord(word);
        return piece.written(0, piece.size());
    }

    // ---- the whole

    public int knock() {
        knocks++;
        return knocks;
    }

    public int house(int what) throws IllegalArgumentException {
        if (what < 0 || what >= HOUSE_NUMBERS) {
            throw new IllegalArgumentException("the house tells 0 to 4");
        }
        switch (what) {
            case 0:
                return signsOfAll();
            case 1:
                return knocks;
            case 2:
                return refusals;
            case 3:
                return samePairs();
            default:
                return acts;
        }
    }

    public boolean isSound() {
        for (int rope = 0; rope < ROPES; rope++) {
            Text text = ropeOf(rope);
            if (!isTurnSound(text) || !isMadeAnewSound(text) || !isFoundSound(text)) {
                return false;
            }
            for (int other = 0; other < ROPES; other++) {
                if (other != rope && !areTwoSound(text, ropeOf(other))) {
                    return false;
                }
            }
        }
        return true;
    }

    public long digest() {
        long sum = 7785L;
        for (int what = 0; what < HOUSE_NUMBERS; what++) {
            sum = sum * 31L + house(what);
        }
        for (int rope = 0; rope < ROPES; rope++) {
            sum = digestOfRope(sum, rope);
        }
        for (int rope = 0; rope < ROPES; rope++) {
            for (int other = rope + 1; other < ROPES; other++) {
                sum = sum * 31L + compare(rope, other);
            }
        }
        return sum * 31L + (isSound() ? 1L : 0L);
    }

    // ---- what must hold of a call

    private Text ropeOf(int rope) {
        Text text = rope < 0 || rope >= ropes.length ? null : ropes[rope];
        if (text == null) {
            throw new IndexOutOfBoundsException("there is no such rope");
        }
        return text;
    }

    private Text ropeWithPlace(int rope, int at) {
        Text text = ropeOf(rope);
        if (at < 0 || at > text.size()) {
            throw new IndexOutOfBoundsException("that is no place of the rope");
        }
        return text;
    }

    private Text ropeWithSign(int rope, int at) {
        Text text = ropeOf(rope);
        if (at < 0 || at >= text.size()) {
            throw new IndexOutOfBoundsException("there is no sign at that place");
        }
        return text;
    }

    private static void requireCode(int code, int most) {
        if (code < 0 || code > most) {
            throw new IllegalArgumentException("that is no code of a sign");
        }
    }

    private static void requirePart(Text text, int from, int to) {
        if (from < 0 || from > to || to > text.size()) {
            throw new IllegalArgumentException("these places tell no part");
        }
    }

    private static int endOfCut(Text text, int from, int to) {
        if (from < 0 || from > text.size() || from > to) {
            throw new IllegalArgumentException("nothing stands from that place to that place");
        }
        return Math.min(to, text.size());
    }

    // ---- the piece

    private void takeWord(int word) {
        if (word < 0 || word >= WORDS) {
            throw new IllegalArgumentException("that is no number of a word");
        }
        piece.clear();
        if (word >= LETTER_WORDS) {
            piece.layString(namedWord(word));
            return;
        }
        for (int k = 0; k < word % 4; k++) {
            piece.lay((char) ('a' + (word / 4 + k) % LETTERS));
        }
    }

    private static String namedWord(int word) {
        switch (word) {
            case 60:
                return "aa";
            case 61:
                return "aba";
            case 62:
                return "abab";
            case 63:
                return "null";
            case 64:
                return "true";
            case 65:
                return "-1";
            case 66:
                return " ";
            case 67:
                return "zzzz";
            case 68:
                return "{}";
            default:
                return "abcabc";
        }
    }

    private void takeWordPart(int word, int from, int to) {
        takeWord(word);
        requirePart(piece, from, to);
        piece.cutOut(to, piece.size());
        piece.cutOut(0, from);
    }

    private void takeSign(int code, int most) {
        requireCode(code, most);
        piece.clear();
        piece.lay((char) code);
    }

    private void takeNumber(long number) {
        piece.clear();
        piece.layNumber(number);
    }

    private static long longOf(int high, int low) {
        return high * 4294967296L + low;
    }

    private void takeTruth(boolean is) {
        piece.clear();
        piece.layString(is ? "true" : "false");
    }

    private void takeNothing() {
        piece.clear();
        piece.layString("null");
    }

    private void takeText(Text text) {
        piece.copyFrom(text);
    }

    private void takePart(Text text, int from, int to) {
        requirePart(text, from, to);
        piece.clear();
        piece.layPart(text, from, to);
    }

    private int beginWithPiece(Text text) {
        int before = text.size();
        text.copyFrom(piece);
        acts++;
        return before;
    }

    private int layPiece(Text text) {
        return exchange(text, text.size(), text.size());
    }

    private int putPiece(Text text, int at) {
        return exchange(text, at, at);
    }

    private int exchange(Text text, int from, int end) {
        if (text.size() - (end - from) + piece.size() > MOST_SIGNS) {
            throw new IllegalStateException("the text would be too long");
        }
        text.cutOut(from, end);
        text.putIn(from, piece);
        acts++;
        return text.size();
    }

    // ---- all ropes together

    private int signsOfAll() {
        int signs = 0;
        for (int rope = 0; rope < ROPES; rope++) {
            signs += ropeOf(rope).size();
        }
        return signs;
    }

    private int samePairs() {
        int pairs = 0;
        for (int rope = 0; rope < ROPES; rope++) {
            for (int other = rope + 1; other < ROPES; other++) {
                if (ropeOf(rope).isSame(ropeOf(other))) {
                    pairs++;
                }
            }
        }
        return pairs;
    }

    private long digestOfRope(long before, int rope) {
        long sum = before * 31L + length(rope);
        sum = sum * 31L + hash(rope);
        sum = sum * 31L + find(rope, 1, false);
        sum = sum * 31L + find(rope, 1, true);
        sum = sum * 31L + find(rope, 66, false);
        return sum * 31L + find(rope, 66, true);
    }

    private boolean isTurnSound(Text text) {
        turned.copyFrom(text);
        turned.turnRound();
        for (int place = 0; place < text.size(); place++) {
            if (turned.signAt(place) != text.signAt(text.size() - 1 - place)) {
                return false;
            }
        }
        turned.turnRound();
        return turned.isSame(text);
    }

    private boolean isMadeAnewSound(Text text) {
        joined.clear();
        anew.clear();
        for (int place = 0; place < text.size(); place++) {
            joined.lay(text.signAt(place));
        }
        for (int place = text.size() - 1; place >= 0; place--) {
            piece.clear();
            piece.lay(text.signAt(place));
            anew.putIn(0, piece);
        }
        return joined.isSame(text) && anew.isSame(text);
    }

    private boolean isFoundSound(Text text) {
        int last = text.size() - 1;
        if (last < 0) {
            return true;
        }
        piece.clear();
        piece.lay(text.signAt(0));
        if (text.firstPlace(piece, 0) != 0) {
            return false;
        }
        piece.clear();
        piece.lay(text.signAt(last));
        return text.lastPlace(piece, text.size()) == last;
    }

    private boolean areTwoSound(Text one, Text other) {
        joined.copyFrom(one);
        joined.layPart(other, 0, other.size());
        anew.copyFrom(one);
        anew.putIn(anew.size(), other);
        if (!joined.isSame(anew)) {
            return false;
        }
        joined.turnRound();
        anew.copyFrom(other);
        anew.turnRound();
        turned.copyFrom(one);
        turned.turnRound();
        anew.layPart(turned, 0, turned.size());
        return joined.isSame(anew) && (one.orderTo(other) < 0) == (other.orderTo(one) > 0);
    }

    /**
     * A row of signs with a fixed room. What tells no place of it, or would not fit, changes nothing: the calls
     * above refuse such things first, and here no index can be wrong even so.
     */
    private static final class Text {
        private final char[] signs;
        private int size;

        Text() {
            signs = new char[ROOM];
        }

        int size() {
            return size;
        }

        char signAt(int place) {
            return place < 0 || place >= size ? (char) 0 : signs[place];
        }

        void changeAt(int place, char sign) {
            if (place >= 0 && place < size) {
                signs[place] = sign;
            }
        }

        void clear() {
            size = 0;
        }

        void lay(char sign) {
            if (size < ROOM) {
                signs[size] = sign;
                size++;
            }
        }

        void layString(String letters) {
            for (int k = 0; k < letters.length(); k++) {
                lay(letters.charAt(k));
            }
        }

        void layPart(Text other, int from, int to) {
            if (from >= 0 && from <= to && to <= other.size && to - from <= ROOM - size) {
                System.arraycopy(other.signs, from, signs, size, to - from);
                size += to - from;
            }
        }

        void copyFrom(Text other) {
            System.arraycopy(other.signs, 0, signs, 0, other.size);
            size = other.size;
        }

        // The digits are taken of the number below 0, as the least one has no counterpart above 0.
        void layNumber(long number) {
            long below = number < 0 ? number : -number;
            int digits = 1;
            for (long left = below / 10; left != 0 && digits < MOST_DIGITS; left /= 10) {
                digits++;
            }
            if (number < 0) {
                lay('-');
            }
            if (digits > ROOM - size) {
                return;
            }
            for (int place = size + digits - 1; place >= size; place--) {
                signs[place] = (char) ('0' - below % 10);
                below /= 10;
            }
            size += digits;
        }

        void putIn(int at, Text other) {
            if (other == this || at < 0 || at > size || other.size > ROOM - size) {
                return;
            }
            System.arraycopy(signs, at, signs, at + other.size, size - at);
            System.arraycopy(other.signs, 0, signs, at, other.size);
            size += other.size;
        }

        void cutOut(int from, int to) {
            if (from >= 0 && from <= to && to <= size) {
                System.arraycopy(signs, to, signs, from, size - to);
                size -= to - from;
            }
        }

        void resize(int many) {
            if (many < 0 || many > ROOM) {
                return;
            }
            for (int place = size; place < many; place++) {
                signs[place] = (char) 0;
            }
            size = many;
        }

        void turnRound() {
            for (int place = 0; place < size / 2; place++) {
                char sign = signs[place];
                signs[place] = signs[size - 1 - place];
                signs[size - 1 - place] = sign;
            }
        }

        boolean isSame(Text other) {
            return orderTo(other) == 0;
        }

        int orderTo(Text other) {
            int both = Math.min(size, other.size);
            for (int place = 0; place < both; place++) {
                if (signs[place] != other.signs[place]) {
                    return signs[place] < other.signs[place] ? -1 : 1;
                }
            }
            return Integer.compare(size, other.size);
        }

        int firstPlace(Text what, int from) {
            for (int place = Math.max(0, Math.min(from, size)); place <= size - what.size; place++) {
                if (standsAt(place, what)) {
                    return place;
                }
            }
            return NONE;
        }

        int lastPlace(Text what, int from) {
            for (int place = Math.min(from, size - what.size); place >= 0; place--) {
                if (standsAt(place, what)) {
                    return place;
                }
            }
            return NONE;
        }

        private boolean standsAt(int place, Text what) {
            for (int k = 0; k < what.size; k++) {
                if (signAt(place + k) != what.signs[k]) {
                    return false;
                }
            }
            return true;
        }

        int sum() {
            int sum = 0;
            for (int place = 0; place < size; place++) {
                sum = 31 * sum + signs[place];
            }
            return sum;
        }

        String written(int from, int to) {
            if (from < 0 || from > to || to > size) {
                return "";
            }
            char[] row = new char[to - from];
            System.arraycopy(signs, from, row, 0, row.length);
            return new String(row);
        }
    }
}
