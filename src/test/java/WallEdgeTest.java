/** The boundary cases of promises 29 to 33: SOUNDS, the TIME, what FITS and what CAN stand. */
public final class WallEdgeTest {
    private static final int NONE = LastLetter.NONE;
    private static final long MOST = 1_000_000_000_000L;
    private static final int[] FAR = {Integer.MIN_VALUE, -2, -1, 26, 27, 32, 33, Integer.MAX_VALUE};

    private WallEdgeTest() {
    }

    public static void main(String[] args) {
        hearAtTheFirstAndTheLastPlace();
        hearOfEachKind();
        hearRefusedDoesNothing();
        hearWithoutWords();
        hear30();
        hear24thWord();
        untellOfNoneSuch();
        untellTwice();
        untellAtTheSameTime();
        untellAtALaterTime();
        laterFromNoneTo1000();
        laterUpTo100000();
        laterRefusedDoesNothing();
        fitsOfNoLength();
        fitsWithoutWords();
        fitsUpToTheCount();
        fitsCountsTheWholeRowAlone();
        fitsAsKnownAt();
        fitsByTheFirstNAlone();
        fitsBySound();
        fitsAsOftenAsOneLikes();
        canOfNoPlace();
        canWithoutWords();
        canOfTwelve();
        canOfNoneThatFits();
        canByWhatStandsAroundIt();
        Due.finish();
    }

    private static void hearAtTheFirstAndTheLastPlace() {
        LastLetter x = Due.told(Due.loops(3));
        Due.is("29 place 0", x.hear(0, 0, 1), 0);
        Due.is("29 place 11", x.hear(11, 0, 2), 1);
        Due.is("29 at place 0", x.can(12, 0, 0), 2);
        Due.is("29 at place 11", x.can(12, 11, 0), 4);
        Due.is("29 at place 10", x.can(12, 10, 0), 7);
        int[] none = {-1, 12, 13, 32, Integer.MIN_VALUE, Integer.MAX_VALUE};
        for (int place : none) {
            Due.is("29 place " + place, x.hear(place, 0, 0), NONE);
        }
        Due.is("29 two sounds", x.about(4), 2);
    }

    private static void hearOfEachKind() {
        LastLetter x = Due.told("word az worth 1;word za worth 1;");
        Due.is("29 the word", x.hear(0, 0, 1), 0);
        Due.is("29 so", x.can(1, 0, 0), 2);
        x.untell(0);
        Due.is("29 the first letter a", x.hear(0, 1, 0), 1);
        Due.is("29 so", x.can(1, 0, 0), 1);
        x.untell(1);
        Due.is("29 the first letter z", x.hear(0, 1, 25), 2);
        Due.is("29 so", x.can(1, 0, 0), 2);
        x.untell(2);
        Due.is("29 the last letter a", x.hear(0, 2, 0), 3);
        Due.is("29 so", x.can(1, 0, 0), 2);
        x.untell(3);
        Due.is("29 the last letter z", x.hear(0, 2, 25), 4);
        Due.is("29 so", x.can(1, 0, 0), 1);
    }

    private static void hearRefusedDoesNothing() {
        LastLetter x = Due.told(Due.loops(3));
        x.hear(0, 0, 0);
        View before = View.of(x);
        Due.is("29 word 3 of three", x.hear(1, 0, 3), NONE);
        for (int value : FAR) {
            for (int what = 0; what <= 2; what++) {
                Due.is("29 hear(1, " + what + ", " + value + ")", x.hear(1, what, value), NONE);
            }
        }
        int[] whats = {-1, 3, 4, Integer.MIN_VALUE, Integer.MAX_VALUE};
        for (int what : whats) {
            Due.is("29 hear(1, " + what + ", 0)", x.hear(1, what, 0), NONE);
        }
        Due.is("29 place 12", x.hear(12, 1, 25), NONE);
        before.stays("29 refused", x);
        Due.is("29 the next number", x.hear(1, 0, 2), 1);
    }

    private static void hearWithoutWords() {
        LastLetter x = new LastLetter();
        Due.is("29 no word", x.hear(0, 0, 0), NONE);
        Due.is("29 a letter can be", x.hear(0, 1, 0), 0);
        Due.is("29 a letter can be", x.hear(0, 2, 25), 1);
        Due.is("29 two sounds", x.about(4), 2);
    }

    private static void hear30() {
        LastLetter x = Due.told(Due.loops(2));
        for (int i = 0; i < 30; i++) {
            Due.is("29 sound " + i, x.hear(i % 12, 1, 0), i);
        }
        View before = View.of(x);
        Due.is("29 there are 30", x.hear(0, 1, 1), NONE);
        before.stays("29 there are 30", x);
        Due.isTrue("30 the last one", x.untell(29));
        Due.is("29 untold ones are among them", x.hear(0, 1, 1), NONE);
        Due.is("37 30 sounds", x.about(4), 30);
        Due.tell(x, Due.loops(2));
        Due.is("29 none of the new tongue", x.hear(0, 1, 1), 0);
        Due.is("29 it counts", x.fits(1, 0), 0);
    }

    private static void hear24thWord() {
        LastLetter x = Due.told(Due.loops(24));
        Due.is("29 word 23", x.hear(0, 0, 23), 0);
        Due.is("29 word 24", x.hear(0, 0, 24), NONE);
        Due.is("29 letter 24", x.hear(1, 1, 24), 1);
        Due.is("33 word 23", x.can(1, 0, 0), 1 << 23);
    }

    private static void untellOfNoneSuch() {
        LastLetter x = Due.told(Due.loops(2));
        Due.isFalse("30 none yet", x.untell(0));
        x.hear(0, 0, 0);
        View before = View.of(x);
        Due.isFalse("30 the next number", x.untell(1));
        int[] none = {-1, 29, 30, 31, 32, Integer.MIN_VALUE, Integer.MAX_VALUE};
        for (int sound : none) {
            Due.isFalse("30 untell(" + sound + ")", x.untell(sound));
        }
        before.stays("30 none such", x);
        x.hear(0, 0, 0);
        Due.tell(x, Due.loops(2));
        Due.isFalse("30 of an old tongue", x.untell(0));
    }

    private static void untellTwice() {
        LastLetter x = Due.told(Due.loops(2));
        x.hear(0, 0, 0);
        x.later(5);
        Due.isTrue("30 untold", x.untell(0));
        x.later(5);
        View before = View.of(x);
        Due.isFalse("30 so already", x.untell(0));
        before.stays("30 so already", x);
        Due.is("30 untold at 5, not at 10", x.fits(1, 7), 2);
        Due.is("30 not yet at 4", x.fits(1, 4), 1);
    }

    private static void untellAtTheSameTime() {
        LastLetter x = Due.told(Due.loops(2));
        x.later(3);
        x.hear(0, 0, 0);
        Due.is("30 told", x.fits(1, 3), 1);
        x.untell(0);
        for (int k = 2; k <= 4; k++) {
            Due.is("30 told and untold at 3, known at " + k, x.fits(1, k), 2);
        }
        Due.is("30 it is a sound still", x.about(4), 1);
    }

    private static void untellAtALaterTime() {
        LastLetter x = Due.told(Due.loops(2));
        x.later(3);
        x.hear(0, 0, 0);
        x.later(4);
        x.untell(0);
        long[] due = {2, 2, 2, 1, 1, 1, 1, 2, 2};
        for (int k = 0; k < due.length; k++) {
            Due.is("30 from 3 till 7, known at " + k, x.fits(1, k), due[k]);
            Due.is("33 from 3 till 7, known at " + k, x.can(1, 0, k), due[k] == 1 ? 1 : 3);
        }
    }

    private static void laterFromNoneTo1000() {
        LastLetter x = new LastLetter();
        Due.is("31 by 0", x.later(0), 0);
        Due.is("31 by 1", x.later(1), 1);
        Due.is("31 by 1000", x.later(1000), 1001);
        Due.is("31 by 1001", x.later(1001), NONE);
        Due.is("37 the time", x.about(5), 1001);
    }

    private static void laterUpTo100000() {
        LastLetter x = new LastLetter();
        for (int i = 1; i <= 100; i++) {
            Due.is("31 by 1000", x.later(1000), 1000 * i);
        }
        Due.is("31 by 0 at 100,000", x.later(0), 100000);
        Due.is("31 to 100,001", x.later(1), NONE);
        Due.is("31 to 101,000", x.later(1000), NONE);
        Due.is("37 the time", x.about(5), 100000);
        x.tongue();
        Due.is("4 a tongue leaves the time", x.about(5), 100000);
        Due.is("31 still full", x.later(1), NONE);
        Due.tell(x, Due.loops(2));
        x.hear(0, 0, 0);
        Due.is("32 known at 99,999", x.fits(1, 99999), 2);
        Due.is("32 known at 100,000", x.fits(1, 100000), 1);
    }

    private static void laterRefusedDoesNothing() {
        LastLetter x = Due.told(Due.loops(2));
        x.later(9);
        x.hear(0, 0, 0);
        View before = View.of(x);
        int[] none = {-1, -1000, 1001, 100000, Integer.MIN_VALUE, Integer.MAX_VALUE};
        for (int by : none) {
            Due.is("31 by " + by, x.later(by), NONE);
        }
        before.stays("31 refused", x);
        for (int i = 0; i < 99; i++) {
            x.later(1000);
        }
        Due.is("31 by 992 to 100,001", x.later(992), NONE);
        Due.is("37 the time", x.about(5), 99009);
        Due.is("31 by 991 to 100,000", x.later(991), 100000);
    }

    private static void fitsOfNoLength() {
        LastLetter x = Due.told(Due.chain(14));
        int[] none = {0, -1, 13, 14, Integer.MIN_VALUE, Integer.MAX_VALUE};
        for (int n : none) {
            Due.is("32 fits(" + n + ", 0)", x.fits(n, 0), NONE);
            Due.is("33 can(" + n + ", 0, 0)", x.can(n, 0, 0), NONE);
        }
        for (int n = 1; n <= 12; n++) {
            Due.is("32 fits(" + n + ", 0)", x.fits(n, 0), 15 - n);
        }
    }

    private static void fitsWithoutWords() {
        LastLetter x = new LastLetter();
        for (int n = 1; n <= 12; n++) {
            Due.is("32 without words", x.fits(n, 0), 0);
        }
        Due.is("32 no such n", x.fits(0, 0), NONE);
        Due.is("32 no such n", x.fits(13, 0), NONE);
    }

    private static void fitsUpToTheCount() {
        LastLetter x = Due.told(Due.loops(10));
        Due.is("32 10 to the 11th", x.fits(11, 0), MOST / 10);
        Due.is("32 10 to the 12th", x.fits(12, 0), MOST);
        LastLetter y = Due.told(Due.loops(10) + "word bx worth 1;");
        Due.is("32 one more that none follows", y.fits(12, 0), MOST);
        y.hear(11, 2, 0);
        Due.is("32 just so many", y.fits(12, 0), MOST);
        y.hear(0, 0, 0);
        Due.is("32 a tenth", y.fits(12, 0), MOST / 10);
        Due.is("32 10 to the 11th times 11 is above", Due.told(Due.loops(10) + "word ab worth 1;").fits(12, 0), MOST);
        LastLetter z = Due.told(Due.loops(24));
        Due.is("32 24 to the 8th", z.fits(8, 0), 110075314176L);
        Due.is("32 24 to the 9th is above", z.fits(9, 0), MOST);
        Due.is("32 24 to the 12th is above", z.fits(12, 0), MOST);
    }

    /** 9 letters a, and one WORD ab behind which none stands: 9 to the 11th times 10 is below the count's end. */
    private static void fitsCountsTheWholeRowAlone() {
        LastLetter x = Due.told(Due.loops(9) + "word ab worth 1;");
        Due.is("32 below the count's end", x.fits(12, 0), 313810596090L);
        LastLetter y = Due.told(Due.loops(23) + "word bb worth 1;");
        y.hear(11, 0, 23);
        Due.is("32 bb twelve times, though a's are beyond count", y.fits(12, 0), 1);
        LastLetter z = Due.told(Due.loops(22) + "word bb worth 1;word bc worth 1;");
        z.hear(11, 2, 2);
        Due.is("32 bc at the end", z.fits(12, 0), 1);
        z.hear(10, 0, 23);
        Due.is("32 none follows bc", z.fits(12, 0), 0);
    }

    private static void fitsAsKnownAt() {
        LastLetter x = Due.told(Due.loops(5));
        x.later(10);
        x.hear(0, 0, 3);
        Due.is("32 known at 9", x.fits(1, 9), 5);
        Due.is("32 known at 10", x.fits(1, 10), 1);
        Due.is("32 known at 11", x.fits(1, 11), 1);
        Due.is("32 known at the last number", x.fits(1, Integer.MAX_VALUE), 1);
        Due.is("32 known at the first number", x.fits(1, Integer.MIN_VALUE), 5);
        Due.is("32 known at -1", x.fits(1, -1), 5);
        LastLetter y = Due.told(Due.loops(5));
        y.hear(0, 0, 3);
        Due.is("32 told at 0, known at -1", y.fits(1, -1), 5);
        Due.is("32 told at 0, known at 0", y.fits(1, 0), 1);
        y.untell(0);
        Due.is("32 untold at 0, known at -1", y.fits(1, -1), 5);
        Due.is("32 untold at 0, known at 0", y.fits(1, 0), 5);
    }

    private static void fitsByTheFirstNAlone() {
        LastLetter x = Due.told(Due.loops(3));
        x.hear(2, 0, 1);
        Due.is("32 the third does not count of two", x.fits(2, 0), 9);
        Due.is("32 it counts of three", x.fits(3, 0), 9);
        Due.is("32 it counts of four", x.fits(4, 0), 27);
        x.hear(2, 0, 2);
        Due.is("32 two words at one place: none", x.fits(3, 0), 0);
        Due.is("32 but not of two", x.fits(2, 0), 9);
        x.untell(0);
        Due.is("32 the other one alone", x.fits(3, 0), 9);
    }

    private static void fitsBySound() {
        LastLetter x = Due.told("word ab worth 1;word cd worth 1;word ef worth 1;alike a c;alike d f;");
        x.hear(0, 1, 2);
        Due.is("32 a and c are one", x.can(1, 0, 0), 3);
        x.hear(0, 2, 5);
        Due.is("32 d and f are one", x.can(1, 0, 0), 2);
        x.hear(0, 2, 3);
        Due.is("32 told the other way", x.fits(1, 0), 1);
        x.hear(0, 0, 0);
        Due.is("32 the word is told by its number", x.fits(1, 0), 0);
        LastLetter y = Due.told("law other;word ab worth 1;word cd worth 1;alike a c;");
        y.hear(0, 1, 0);
        Due.is("32 by sound by each law", y.fits(1, 0), 2);
    }

    private static void fitsAsOftenAsOneLikes() {
        LastLetter x = Due.told("word aa worth 1;");
        x.say(0);
        Due.is("32 one word, twelve times", x.fits(12, 0), 1);
        Due.is("33 one word, twelve times", x.can(12, 11, 0), 1);
    }

    private static void canOfNoPlace() {
        LastLetter x = Due.told(Due.loops(3));
        for (int n = 1; n <= 12; n += 11) {
            Due.is("33 the first place", x.can(n, 0, 0), 7);
            Due.is("33 the last place", x.can(n, n - 1, 0), 7);
            int[] none = {-1, n, n + 1, 32, Integer.MIN_VALUE, Integer.MAX_VALUE};
            for (int place : none) {
                Due.is("33 can(" + n + ", " + place + ", 0)", x.can(n, place, 0), NONE);
            }
        }
        Due.is("33 no such n, though the place is one", x.can(13, 12, 0), NONE);
        Due.is("33 no such n", x.can(0, -1, 0), NONE);
        Due.is("33 known long ago", x.can(1, 0, Integer.MIN_VALUE), 7);
        Due.is("33 known far on", x.can(1, 0, Integer.MAX_VALUE), 7);
    }

    private static void canWithoutWords() {
        LastLetter x = new LastLetter();
        Due.is("33 none", x.can(1, 0, 0), 0);
        Due.is("33 none", x.can(12, 11, 0), 0);
        Due.is("33 no such place", x.can(12, 12, 0), NONE);
    }

    private static void canOfTwelve() {
        LastLetter x = Due.told(Due.chain(24));
        for (int place = 0; place < 12; place++) {
            Due.is("33 12 of a chain of 24, place " + place, x.can(12, place, 0), 0x1FFF << place);
        }
        Due.is("33 all 24 of loops", Due.told(Due.loops(24)).can(12, 6, 0), 0xFFFFFF);
        LastLetter y = Due.told(Due.chain(11));
        Due.is("33 no row of twelve", y.can(12, 0, 0), 0);
        Due.is("33 one of eleven", y.can(11, 10, 0), 1 << 10);
    }

    private static void canOfNoneThatFits() {
        LastLetter x = Due.told(Due.loops(3));
        x.hear(4, 1, 1);
        for (int place = 0; place < 5; place++) {
            Due.is("33 none fits, place " + place, x.can(5, place, 0), 0);
            Due.is("33 of four all can, place " + place, x.can(4, place, 0), place < 4 ? 7 : NONE);
        }
        Due.is("32 none fits", x.fits(5, 0), 0);
    }

    private static void canByWhatStandsAroundIt() {
        LastLetter x = Due.told("word ab worth 1;word bc worth 1;word bd worth 1;word ce worth 1;word df worth 1;word xx worth 1;");
        x.hear(2, 2, 4);
        Due.is("33 ahead of ce", x.can(3, 1, 0), 0b000010);
        Due.is("33 two ahead of ce", x.can(3, 0, 0), 0b000001);
        Due.is("33 at its place", x.can(3, 2, 0), 0b001000);
        Due.is("33 behind it none", x.can(4, 3, 0), 0);
        LastLetter y = Due.told("word ab worth 1;word bc worth 1;word bd worth 1;word ce worth 1;word df worth 1;word xx worth 1;");
        y.hear(0, 0, 2);
        Due.is("33 behind bd", y.can(2, 1, 0), 0b010000);
        Due.is("33 no third", y.can(3, 1, 0), 0);
    }
}
