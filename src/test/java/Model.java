/** What the document asks, told in the plainest way on Java's own StringBuilder. */
final class Model {
    private static final String[] NAMED = {"aa", "aba", "abab", "null", "true", "-1", " ", "zzzz", "{}", "abcabc"};

    private final StringBuilder[] ropes = {
        new StringBuilder(), new StringBuilder(), new StringBuilder(), new StringBuilder()};
    private int knocks;
    private int refused;
    private int acts;

    int length(int rope) {
        return ropes[rope].length();
    }

    /** The answer to a call of that name, or throws what the call throws. */
    Object answer(String name, int[] n, boolean is) {
        switch (name) {
            case "begin": {
                StringBuilder text = of(n[0]);
                return begin(text, wordText(n[1]));
            }
            case "beginAs":
                return begin(of(n[0]), of(n[1]).toString());
            case "ensure":
                return ensure(of(n[0]), n[1]);
            case "deleteAt":
                signPlace(n[0], n[1]);
                return change(n[0], n[1], n[1] + 1, "");
            case "setSign":
                return setSign(n[0], n[1], n[2]);
            case "turn":
                of(n[0]).reverse();
                acts++;
                return of(n[0]).length();
            case "setLength":
                return setLength(of(n[0]), n[1]);
            case "replace": {
                int end = cutEnd(n[0], n[1], n[2]);
                return change(n[0], n[1], end, wordText(n[3]));
            }
            case "replaceBy":
                of(n[0]);
                of(n[3]);
                return change(n[0], n[1], cutEnd(n[0], n[1], n[2]), of(n[3]).toString());
            case "delete":
                return change(n[0], n[1], cutEnd(n[0], n[1], n[2]), "");
            default:
                return laidOrPut(name, n, is);
        }
    }

    private Object laidOrPut(String name, int[] n, boolean is) {
        switch (name) {
            case "word":
            case "row":
                return lay(n[0], of(n[0]) == null ? "" : wordText(n[1]));
            case "sign":
                return lay(n[0], of(n[0]) == null ? "" : signText(n[1], 255));
            case "point":
                return lay(n[0], of(n[0]) == null ? "" : signText(n[1], 127));
            case "number":
                return lay(n[0], String.valueOf(n[1]));
            case "longNumber":
                return lay(n[0], String.valueOf(((long) n[1] << 32) + n[2]));
            case "truth":
                return lay(n[0], String.valueOf(is));
            case "rowPart":
                return lay(n[0], of(n[0]) == null ? "" : partOf(wordText(n[1]), n[2], n[3]));
            case "nothing":
                return lay(n[0], "null");
            case "rope":
                return lay(n[0], of(n[0]) == null ? "" : of(n[1]).toString());
            case "ropePart":
                return lay(n[0], of(n[0]) == null ? "" : partOf(of(n[1]).toString(), n[2], n[3]));
            default:
                return put(name, n, is);
        }
    }

    private Object put(String name, int[] n, boolean is) {
        if (!name.startsWith("put")) {
            return asked(name, n, is);
        }
        putPlace(n[0], n[1]);
        String piece;
        switch (name) {
            case "putWord":
            case "putRow":
                piece = wordText(n[2]);
                break;
            case "putSign":
                piece = signText(n[2], 255);
                break;
            case "putNumber":
                piece = String.valueOf(n[2]);
                break;
            case "putLong":
                piece = String.valueOf(((long) n[2] << 32) + n[3]);
                break;
            case "putTruth":
                piece = String.valueOf(is);
                break;
            case "putRowPart":
                piece = partOf(wordText(n[2]), n[3], n[4]);
                break;
            case "putNothing":
                piece = "null";
                break;
            case "putRope":
                piece = of(n[2]).toString();
                break;
            default:
                piece = partOf(of(n[2]).toString(), n[3], n[4]);
        }
        return change(n[0], n[1], n[1], piece);
    }

    private Object asked(String name, int[] n, boolean is) {
        switch (name) {
            case "text":
                return of(n[0]).toString();
            case "length":
                return of(n[0]).length();
            case "at":
                signPlace(n[0], n[1]);
                return (int) of(n[0]).charAt(n[1]);
            case "part":
                return partOf(of(n[0]).toString(), n[1], n[2]);
            case "rest":
                return partOf(of(n[0]).toString(), n[1], of(n[0]).length());
            case "find": {
                StringBuilder text = of(n[0]);
                return is ? text.lastIndexOf(wordText(n[1])) : text.indexOf(wordText(n[1]));
            }
            case "findFrom": {
                StringBuilder text = of(n[0]);
                return is ? text.lastIndexOf(wordText(n[1]), n[2]) : text.indexOf(wordText(n[1]), n[2]);
            }
            case "findNothing":
            case "compareNothing":
                of(n[0]);
                refused++;
                return -9;
            case "compare":
                return Integer.signum(of(n[0]).toString().compareTo(of(n[1]).toString()));
            case "hash":
                return of(n[0]).toString().hashCode();
            case "wordText":
                return wordText(n[0]);
            case "knock":
                return ++knocks;
            case "house":
                return house(n[0]);
            case "isSound":
                return true;
            case "digest":
                return digest();
            default:
                throw new AssertionError(name);
        }
    }

    private StringBuilder of(int rope) {
        if (rope < 0 || rope > 3) {
            throw new IndexOutOfBoundsException();
        }
        return ropes[rope];
    }

    private void putPlace(int rope, int at) {
        if (at < 0 || at > of(rope).length()) {
            throw new IndexOutOfBoundsException();
        }
    }

    private void signPlace(int rope, int at) {
        if (at < 0 || at >= of(rope).length()) {
            throw new IndexOutOfBoundsException();
        }
    }

    private static String wordText(int word) {
        if (word < 0 || word > 69) {
            throw new IllegalArgumentException();
        }
        if (word > 59) {
            return NAMED[word - 60];
        }
        return "abcdefghijklmnopqrstuvwxyz".substring(word / 4, word / 4 + word % 4);
    }

    private static String signText(int code, int most) {
        if (code < 0 || code > most) {
            throw new IllegalArgumentException();
        }
        return String.valueOf((char) code);
    }

    private static String partOf(String text, int from, int to) {
        if (from < 0 || to > text.length() || from > to) {
            throw new IllegalArgumentException();
        }
        return text.substring(from, to);
    }

    private int cutEnd(int rope, int from, int to) {
        int end = of(rope).length();
        if (from < 0 || from > end || from > to) {
            throw new IllegalArgumentException();
        }
        return Math.min(to, end);
    }

    private int begin(StringBuilder text, String word) {
        int before = text.length();
        text.setLength(0);
        text.append(word);
        acts++;
        return before;
    }

    private static int ensure(StringBuilder text, int many) {
        if (many < -9 || many > 500) {
            throw new IllegalArgumentException();
        }
        return text.length();
    }

    private int setSign(int rope, int at, int code) {
        signPlace(rope, at);
        int before = of(rope).charAt(at);
        of(rope).setCharAt(at, signText(code, 255).charAt(0));
        acts++;
        return before;
    }

    private int setLength(StringBuilder text, int length) {
        if (length < 0 || length > 240) {
            throw new IllegalArgumentException();
        }
        int before = text.length();
        text.setLength(length);
        acts++;
        return before;
    }

    private int lay(int rope, String piece) {
        return change(rope, of(rope).length(), of(rope).length(), piece);
    }

    private int change(int rope, int from, int end, String piece) {
        StringBuilder text = of(rope);
        if (text.length() - (end - from) + piece.length() > 240) {
            throw new IllegalStateException();
        }
        text.replace(from, end, piece);
        acts++;
        return text.length();
    }

    private int house(int what) {
        int signs = 0;
        int pairs = 0;
        for (int one = 0; one < 4; one++) {
            signs += ropes[one].length();
            for (int two = one + 1; two < 4; two++) {
                pairs += ropes[one].toString().contentEquals(ropes[two]) ? 1 : 0;
            }
        }
        int[] numbers = {signs, knocks, refused, pairs, acts};
        if (what < 0 || what >= numbers.length) {
            throw new IllegalArgumentException();
        }
        return numbers[what];
    }

    private long digest() {
        long sum = 7785;
        for (int what = 0; what < 5; what++) {
            sum = sum * 31 + house(what);
        }
        for (StringBuilder text : ropes) {
            sum = sum * 31 + text.length();
            sum = sum * 31 + text.toString().hashCode();
            sum = sum * 31 + text.indexOf("a");
            sum = sum * 31 + text.lastIndexOf("a");
            sum = sum * 31 + text.indexOf(" ");
            sum = sum * 31 + text.lastIndexOf(" ");
        }
        for (int one = 0; one < 4; one++) {
            for (int two = one + 1; two < 4; two++) {
                sum = sum * 31 + Integer.signum(ropes[one].toString().compareTo(ropes[two].toString()));
            }
        }
        return sum * 31 + 1;
    }
}
