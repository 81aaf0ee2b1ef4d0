import java.nio.charset.StandardCharsets;

/** What the project's tests share: counting wrong answers, and telling texts to an object. */
final class Due {
    private static int wrong = 0;

    private Due() {
    }

    static void is(String what, long got, long want) {
        if (got != want) {
            wrong++;
            System.out.println(what + " answered " + got + ", due is " + want);
        }
    }

    static void isTrue(String what, boolean got) {
        is(what, got ? 1 : 0, 1);
    }

    static void isFalse(String what, boolean got) {
        is(what, got ? 1 : 0, 0);
    }

    static void finish() {
        System.out.println(wrong == 0 ? "all answers are as due" : wrong + " answers are not as due");
        if (wrong != 0) {
            System.exit(1);
        }
    }

    /** Bytes behind the text's end are blanks that end() takes away again. */
    static void feed(LastLetter x, String text) {
        byte[] bytes = text.getBytes(StandardCharsets.ISO_8859_1);
        int before = x.about(6);
        for (int i = 0; i < bytes.length; i += 20) {
            x.feed(four(bytes, i), four(bytes, i + 4), four(bytes, i + 8), four(bytes, i + 12), four(bytes, i + 16));
        }
        x.end(before + bytes.length);
    }

    static int tell(LastLetter x, String text) {
        feed(x, text);
        return x.tongue();
    }

    static LastLetter told(String text) {
        LastLetter x = new LastLetter();
        int words = tell(x, text);
        if (words == LastLetter.NONE) {
            wrong++;
            System.out.println("fault " + x.fault(0) + " at " + x.fault(1) + " in: " + text);
        }
        return x;
    }

    /** WORDS named a?a, which may all FOLLOW one another and themselves by law one, of worth 0, 1, 2 .. */
    static String loops(int many) {
        StringBuilder text = new StringBuilder();
        for (int i = 0; i < many; i++) {
            text.append("word a").append((char) ('a' + i)).append("a worth ").append(i).append(";");
        }
        return text.toString();
    }

    /** WORDS named ab, bc, cd .. of worth 1, each of which only the next one may FOLLOW. */
    static String chain(int many) {
        StringBuilder text = new StringBuilder();
        for (int i = 0; i < many; i++) {
            text.append("word ").append((char) ('a' + i)).append((char) ('b' + i)).append(" worth 1;");
        }
        return text.toString();
    }

    /** A text's FAULT on a new object (0 and NONE: it has none). */
    static void fault(String text, int number, int place) {
        LastLetter x = new LastLetter();
        int answer = tell(x, text);
        is("tongue of '" + text + "'", answer == LastLetter.NONE ? 1 : 0, number == 0 ? 0 : 1);
        is("fault of '" + text + "'", x.fault(0), number);
        is("place of '" + text + "'", x.fault(1), place);
    }

    /** The ROW that lies there must be just this one. */
    static void lies(String what, LastLetter x, int... words) {
        is(what + ": length", x.about(8), words.length);
        for (int i = 0; i < words.length; i++) {
            is(what + ": lies(" + i + ")", x.lies(i), words[i]);
        }
        is(what + ": behind it", x.lies(words.length), LastLetter.NONE);
        is(what + ": ahead of it", x.lies(-1), LastLetter.NONE);
    }

    private static int four(byte[] bytes, int from) {
        int number = 0;
        for (int i = from; i < from + 4; i++) {
            number = number << 8 | (i < bytes.length ? bytes[i] & 255 : 32);
        }
        return number;
    }
}
