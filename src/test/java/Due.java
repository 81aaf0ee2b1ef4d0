import java.nio.charset.StandardCharsets;

/** What the project's tests share: counting wrong answers, and telling texts to an object. */
final class Due {
    private static int wrong = 0;

    private Due() {
    }

    static void is(String what, long got, long want) {
        if (got != want) {
            wrong++;
            System.out.println(what + " answered " + got + ", due is " + want);
        }
    }

    static void isTrue(String what, boolean got) {
        is(what, got ? 1 : 0, 1);
    }

    static void isFalse(String what, boolean got) {
        is(what, got ? 1 : 0, 0);
    }

    static void finish() {
        System.out.println(wrong == 0 ? "all answers are as due" : wrong + " answers are not as due");
        if (wrong != 0) {
            System.exit(1);
        }
    }

    /** Bytes behind the text's end are blanks that end() takes away again. */
    static void feed(LastLetter x, String text) {
        byte[] bytes = text.getBytes(StandardCharsets.ISO_8859_1);
        int before = x.about(6);
        for (int i = 0; i < bytes.length; i += 20) {
            x.feed(four(bytes, i), four(bytes, i + 4), four(bytes, i + 8), four(bytes, i + 12), four(bytes, i + 16));
        }
        x.end(before + bytes.length);
    }

    static int tell(LastLetter x, String text) {
        feed(x, text);
        return x.tongue();
    }

    static LastLetter told(String text) {
        LastLetter x = new LastLetter();
        int words = tell(x, text);
        if (words == LastLetter.NONE) {
            wrong++;
            System.out.println("fault " + x.fault(0) + " at " + x.fault(1) + " in: " + text);
        }
        return x;
    }

    /** The ROW that lies there must be just this one. */
    static void lies(String what, LastLetter x, int... words) {
        is(what + ": length", x.about(8), words.length);
        for (int i = 0; i < words.length; i++) {
            is(what + ": lies(" + i + ")", x.lies(i), words[i]);
        }
        is(what + ": behind it", x.lies(words.length), LastLetter.NONE);
        is(what + ": ahead of it", x.lies(-1), LastLetter.NONE);
    }

    private static int four(byte[] bytes, int from) {
        int number = 0;
        for (int i = from; i < from + 4; i++) {
            number = number << 8 | (i < bytes.length ? bytes[i] & 255 : 32);
        }
        return number;
    }
}
