/** The boundary cases of promises 1 to 5: the TAPE, the limits of a text, its FAULTS. */
public final class TextEdgeTest {
    private static final int NONE = LastLetter.NONE;
    private static final int[] FAR = {Integer.MIN_VALUE, -1601, -2, -1};

    private TextEdgeTest() {
    }

    public static void main(String[] args) {
        aNewObjectIsEmpty();
        feedFillsUpTo1600();
        feedAboveComesNotAtAll();
        feedComesBehindWhatIsThere();
        feedTakesEachNumbersHighestByteFirst();
        endTakesFromNoneToAll();
        endBeyondDoesNothing();
        endCutsForWhatComesThen();
        tongueOfAnEmptyTape();
        tongueOf1600Bytes();
        tongueEmptiesTheTape();
        tongueBeginsAnewButForWAndTime();
        tongueWithAFaultLeavesAll();
        tongueWithAFaultLeavesTheTape();
        tongueWithAFaultLeavesNothingForTheNext();
        tongueAnewKnowsNothingOfTheOldTables();
        tongueAfterTongue();
        limitsBeginAnew();
        faultIsOfTheLatestTongue();
        faultOfAnotherWhat();
        tokensOfWords();
        tokensOfNumbers();
        tokensAndBlanks();
        tokensThatCantStandThere();
        namesAndLetters();
        limitOfWords();
        limitOfWorthAndTimes();
        limitOfLaws();
        limitOfAlikes();
        limitOfErrands();
        errandsToldAhead();
        faultOfTheFirstPlace();
        faultOfOnePlaceTheLeast();
        faultAtTheEnd();
        faultThreeAtTheSecond();
        Due.finish();
    }

    private static void aNewObjectIsEmpty() {
        LastLetter x = new LastLetter();
        int[] due = {0, 0, 0, NONE, 0, 0, 0, 1, 0, 0};
        for (int what = 0; what < due.length; what++) {
            Due.is("1 about(" + what + ")", x.about(what), due[what]);
        }
        Due.is("1 no word may be said", x.may(), 0);
        Due.is("1 none follows", x.follow(0), NONE);
        Due.is("1 no box holds anything", x.back(0), NONE);
        Due.is("1 no fault", x.fault(0), 0);
        Due.is("1 no fault's place", x.fault(1), NONE);
    }

    private static void feedFillsUpTo1600() {
        LastLetter x = new LastLetter();
        for (int i = 1; i <= 80; i++) {
            Due.is("2 feed " + i, x.feed(i, i, i, i, i), 20 * i);
        }
        Due.is("2 the 81st", x.feed(1, 1, 1, 1, 1), NONE);
        Due.is("2 the tape is full", x.about(6), 1600);
    }

    private static void feedAboveComesNotAtAll() {
        LastLetter x = new LastLetter();
        Due.feed(x, " ".repeat(1581));
        View before = View.of(x);
        Due.is("2 to 1601", x.feed(0, 0, 0, 0, 0), NONE);
        before.stays("2 to 1601", x);
        Due.is("2 nothing came", x.tongue(), 0);
        Due.feed(x, " ".repeat(1580));
        Due.is("2 to 1600", x.feed(0x20202020, 0x20202020, 0x20202020, 0x20202020, 0x20202020), 1600);
        before = View.of(x);
        Due.is("2 to 1620", x.feed(0, 0, 0, 0, 0), NONE);
        before.stays("2 to 1620", x);
        Due.is("2 nothing came", x.tongue(), 0);
    }

    private static void feedComesBehindWhatIsThere() {
        LastLetter x = new LastLetter();
        Due.feed(x, "word a w");
        Due.is("2 behind eight bytes", x.feed(0x6F727468, 0x20313B20, 0x20202020, 0x20202020, 0x20202020), 28);
        Due.is("2 one text", x.tongue(), 1);
    }

    private static void feedTakesEachNumbersHighestByteFirst() {
        LastLetter x = new LastLetter();
        x.feed(0x6C617720, 0x6F74_6865, 0x723B776F, 0x72642061, 0x20776F72);
        x.feed(0x7468_2034, 0x3B000000, 0, 0, 0);
        Due.is("2 'law other;word a worth 4;'", x.end(25), 25);
        Due.is("2 'law other;word a worth 4;'", x.tongue(), 1);
        Due.is("2 its worth", x.say(0), 4);
        for (int i = 0; i < 20; i++) {
            int[] numbers = {0x20202020, 0x20202020, 0x20202020, 0x20202020, 0x20202020};
            numbers[i / 4] ^= 0xDF << 8 * (3 - i % 4);
            LastLetter y = new LastLetter();
            y.feed(numbers[0], numbers[1], numbers[2], numbers[3], numbers[4]);
            Due.is("2 byte 255 at " + i, y.tongue(), NONE);
            Due.is("2 byte 255 at " + i + " is no token", y.fault(0), 1);
            Due.is("2 byte 255 at " + i, y.fault(1), i);
        }
    }

    private static void endTakesFromNoneToAll() {
        LastLetter x = new LastLetter();
        Due.is("3 none of an empty tape", x.end(0), 0);
        Due.feed(x, " ".repeat(1600));
        Due.is("3 all", x.end(1600), 1600);
        Due.is("3 all but one", x.end(1599), 1599);
        Due.is("3 bytes", x.about(6), 1599);
        Due.is("3 one", x.end(1), 1);
        Due.is("3 none", x.end(0), 0);
        Due.is("3 bytes", x.about(6), 0);
    }

    private static void endBeyondDoesNothing() {
        LastLetter x = new LastLetter();
        Due.is("3 one of none", x.end(1), NONE);
        Due.feed(x, "word ab worth 1;");
        View before = View.of(x);
        int[] beyond = {17, 18, 1600, 1601, Integer.MAX_VALUE};
        for (int n : beyond) {
            Due.is("3 end(" + n + ")", x.end(n), NONE);
        }
        for (int n : FAR) {
            Due.is("3 end(" + n + ")", x.end(n), NONE);
        }
        before.stays("3 beyond", x);
        Due.is("3 the text is whole", x.tongue(), 1);
    }

    private static void endCutsForWhatComesThen() {
        LastLetter x = new LastLetter();
        Due.feed(x, "law two;word ab worth 1");
        Due.is("3 the first eight", x.end(8), 8);
        Due.is("3 those cut are gone", x.end(9), NONE);
        Due.is("3 what comes then", Due.tell(x, "word a worth 1;"), 1);
        Due.is("3 by law two", x.follow(0), 0);
    }

    private static void tongueOfAnEmptyTape() {
        LastLetter x = new LastLetter();
        Due.is("4 empty on a new object", x.tongue(), 0);
        Due.tell(x, Due.chain(3) + "errand ab;");
        Due.is("4 empty behind three", x.tongue(), 0);
        Due.is("4 no words", x.about(0), 0);
        Due.is("4 no errands", x.about(1), 0);
        Due.is("4 none may be said", x.may(), 0);
        Due.is("4 none such", x.follow(0), NONE);
        Due.is("4 blanks alone", Due.tell(x, " \n\n "), 0);
    }

    private static void tongueOf1600Bytes() {
        LastLetter x = new LastLetter();
        String line = "word ab worth 1;";
        Due.is("4 1,600 bytes", Due.tell(x, " ".repeat(1600 - line.length()) + line), 1);
        Due.is("4 the last is missing", Due.tell(x, " ".repeat(1585) + "word ab worth 1"), NONE);
        Due.is("4 at the end", x.fault(1), 1600);
        x.end(0);
        Due.is("4 the last is no token", Due.tell(x, " ".repeat(1599) + "#"), NONE);
        Due.is("4 at the last byte", x.fault(1), 1599);
        x.end(0);
        Due.is("4 the last can't stand there", Due.tell(x, " ".repeat(1599) + ";"), NONE);
        Due.is("4 the last byte", x.fault(1), 1599);
        Due.is("4 a token that can't", x.fault(0), 2);
    }

    private static void tongueEmptiesTheTape() {
        LastLetter x = Due.told("word ab worth 1;");
        Due.is("4 empty then", x.about(6), 0);
        Due.is("4 nothing to keep", x.end(1), NONE);
        Due.is("4 from the first byte", x.feed(0, 0, 0, 0, 0), 20);
    }

    private static LastLetter busy() {
        LastLetter x = Due.told("word ab worth 3 times 2;word bc worth 5;word ca worth 7;alike x c;errand ca;");
        x.seed(-77);
        x.later(6);
        x.hear(0, 0, 1);
        x.hear(11, 2, 23);
        x.later(1);
        x.untell(1);
        x.say(2);
        x.say(0);
        for (int box = 0; box < 3; box++) {
            x.image(box);
        }
        x.say(1);
        x.longest();
        return x;
    }

    private static void tongueBeginsAnewButForWAndTime() {
        LastLetter x = busy();
        Due.is("4 the same text anew", Due.tell(x, "word ab worth 3 times 2;word bc worth 5;word ca worth 7;"), 3);
        int[] due = {3, 0, 0, NONE, 0, 7, 0, -77, 0, 0};
        for (int what = 0; what < due.length; what++) {
            Due.is("4 anew about(" + what + ")", x.about(what), due[what]);
        }
        Due.is("4 any may be said first", x.may(), 7);
        Due.is("4 nothing was said", x.word(0, 0), 0);
        Due.is("4 all are left", x.word(0, 1), 2);
        Due.is("4 nothing is done", x.done(), 0);
        Due.is("4 no sound counts", x.fits(1, 7), 3);
        Due.isFalse("4 no sound is there", x.untell(0));
        Due.is("4 no row lies there", x.lies(0), NONE);
        for (int box = 0; box < 3; box++) {
            Due.is("4 box " + box + " is empty", x.back(box), NONE);
        }
        Due.is("4 sounds are numbered anew", x.hear(0, 0, 0), 0);
    }

    private static void tongueWithAFaultLeavesAll() {
        LastLetter x = busy();
        Due.feed(x, "law other;alike a b;word cc worth 1;word dd worth 9;errand cc;word cc");
        Due.is("4 a fault", x.tongue(), NONE);
        int[] due = {3, 1, 3, 1, 2, 7, 69, -77, 3, 15};
        for (int what = 0; what < due.length; what++) {
            Due.is("4 behind a fault about(" + what + ")", x.about(what), due[what]);
        }
        View before = View.of(x);
        Due.is("4 once more", x.tongue(), NONE);
        before.stays("4 a fault", x);
        Due.is("4 its number", x.fault(0), 3);
        Due.is("4 its place", x.fault(1), 67);
        Due.is("4 what may follow", x.follow(0), 2);
        Due.is("4 what was said", x.word(0, 0), 1);
        Due.is("4 what is done", x.done(), 1);
        Due.lies("4 the row", x, 0, 1, 2);
        Due.is("4 sounds", x.fits(1, 7), 1);
        Due.isTrue("4 sounds", x.untell(0));
        for (int box = 0; box < 3; box++) {
            Due.is("4 box " + box + " stays", x.back(box), 2);
        }
    }

    private static void tongueWithAFaultLeavesTheTape() {
        LastLetter x = new LastLetter();
        Due.is("4 not whole yet", Due.tell(x, "word ab wor"), NONE);
        Due.is("4 the tape stays", x.about(6), 11);
        Due.is("4 whole now", Due.tell(x, "th 5;"), 1);
        Due.is("4 its worth", x.say(0), 5);
    }

    private static void tongueWithAFaultLeavesNothingForTheNext() {
        LastLetter x = new LastLetter();
        String line = "law two;alike a b;word a worth 9 times 9;word b worth 9;errand a;errand b after a;";
        Due.is("4 a fault at its end", Due.tell(x, line + "#"), NONE);
        x.end(0);
        Due.is("4 the next", Due.tell(x, "word b worth 1;word a worth 2;errand b;"), 2);
        Due.is("4 law one, nothing alike", x.follow(0), 1);
        Due.is("4 law one, nothing alike", x.follow(1), 2);
        Due.is("4 one errand", x.about(1), 1);
        Due.is("4 once", x.word(1, 1), 1);
        Due.is("4 its own worth", x.say(0), 1);
        Due.is("4 its own errand", x.done(), 1);
    }

    private static void tongueAnewKnowsNothingOfTheOldTables() {
        LastLetter x = Due.told("word ab worth 9;word ba worth 9;word aa worth 9;");
        tables(x, new int[] {1, 1, 3, 27, 1, 1, 1, 0, 1, 9});
        Due.tell(x, "word ab worth 1;word cd worth 2;word ef worth 3;");
        tables(x, new int[] {0, 0, 1, 3, 3, 0, 0, NONE, 0, 0});
        Due.tell(x, "word ba worth 1;word ab worth 2;");
        tables(x, new int[] {1, 1, 2, 3, 1, 1, 1, 1, 1, 2});
    }

    /** ALL, ROUND, LONGEST, WORTHY, PARTED, MISSED of 0, GAME, the word that wins, DEEP, SCORE of 0 (of 1, if there are three). */
    private static void tables(LastLetter x, int[] due) {
        int of = x.about(0) == 3 ? 1 : 0;
        int[] got = {
            x.all(false), x.all(true), x.longest(), x.worthy(), x.parted(), x.missed(0), x.game(of), x.wins(of), x.deep(of), x.score(of)
        };
        for (int i = 0; i < due.length; i++) {
            Due.is("4 table " + i + " of " + x.about(0) + " words", got[i], due[i]);
        }
    }

    /** Three in a row, so that whatever holds a TONGUE is used again. */
    private static void tongueAfterTongue() {
        LastLetter x = Due.told(Due.loops(3));
        Due.tell(x, "word ab worth 1;word ca worth 1;word bc worth 1;");
        Due.is("4 the second", x.follow(0), 0b100);
        Due.is("12 its round", x.all(true), 1);
        Due.lies("12 its round", x, 0, 2, 1);
        Due.tell(x, "word ab worth 1;word bc worth 1;word ca worth 1;");
        Due.is("4 nothing of the first is in the third", x.follow(0), 0b010);
        Due.is("12 its round", x.all(true), 1);
        Due.lies("12 its round", x, 0, 1, 2);
        Due.is("33 what stands ahead of word 0", x.fits(12, 0), 3);
        Due.is("22 its game", x.game(0), 0);
        Due.tell(x, "word ab worth 1;word bc worth 1;word cd worth 1;");
        Due.is("28 nothing of the second is in the fourth", x.dead(), 0b100);
        Due.is("12 no round", x.all(true), 0);
        Due.is("32 no row of four", x.fits(4, 0), 0);
    }

    private static void limitsBeginAnew() {
        LastLetter x = new LastLetter();
        String errands = "errand a;errand b;errand c;errand d;errand e;errand f;";
        String full = singles(24) + "law two;" + "alike a b;".repeat(10) + errands;
        for (int i = 0; i < 4; i++) {
            Due.is("4 all limits reached", Due.tell(x, full), 24);
            Due.is("4 all limits reached", x.about(1), 6);
            Due.is("4 one law too many", Due.tell(x, full + "law one;"), NONE);
            Due.is("4 at its first word", x.fault(1), full.length());
            x.end(0);
        }
    }

    private static void faultIsOfTheLatestTongue() {
        LastLetter x = Due.told("word ab worth 1;");
        Due.is("5 none", x.fault(0), 0);
        Due.is("5 no place", x.fault(1), NONE);
        Due.tell(x, "#");
        Due.is("5 one", x.fault(0), 1);
        Due.is("5 place 0 is a place", x.fault(1), 0);
        x.end(0);
        x.feed(0, 0, 0, 0, 0);
        Due.is("5 till the next tongue()", x.fault(0), 1);
        Due.is("5 till the next tongue()", x.fault(1), 0);
        x.end(0);
        x.tongue();
        Due.is("5 none of the empty one", x.fault(0), 0);
        Due.is("5 none of the empty one", x.fault(1), NONE);
    }

    private static void faultOfAnotherWhat() {
        LastLetter x = new LastLetter();
        Due.tell(x, "word word worth 100;");
        Due.is("5 what 0", x.fault(0), 4);
        Due.is("5 what 1", x.fault(1), 16);
        int[] other = {-1, 2, 3, 256, Integer.MIN_VALUE, Integer.MAX_VALUE};
        for (int what : other) {
            Due.is("5 what " + what, x.fault(what), NONE);
        }
    }

    private static void tokensOfWords() {
        Due.fault("word abcdefgh worth 1;", 0, NONE);
        Due.fault("word abcdefghi worth 1;", 1, 5);
        Due.fault("word az worth 1;word za worth 1;", 0, NONE);
        Due.fault("word a` worth 1;", 1, 6);
        Due.fault("word z{ worth 1;", 1, 6);
        Due.fault("word A worth 1;", 1, 5);
        Due.fault("word aZ worth 1;", 1, 6);
        Due.fault("word " + (char) ('a' + 128) + " worth 1;", 1, 5);
        Due.fault("abcdefgh", 2, 0);
        Due.fault("abcdefghi", 1, 0);
    }

    private static void tokensOfNumbers() {
        Due.fault("word a worth 0;", 0, NONE);
        Due.fault("word a worth 9;", 0, NONE);
        Due.fault("word a worth 0000;", 0, NONE);
        Due.fault("word a worth 0099 times 0009;", 0, NONE);
        Due.fault("word a worth 00000;", 1, 13);
        Due.fault("word a worth 00099;", 1, 13);
        Due.fault("word a worth 1/;", 1, 14);
        Due.fault("word a worth 1:;", 1, 14);
        Due.fault("word a worth :;", 1, 13);
        Due.fault("word a worth /;", 1, 13);
        Due.fault("word a worth 1a;", 1, 13);
        Due.fault("word a worth 1z;", 1, 13);
        Due.fault("word a worth 1times 2;", 1, 13);
        Due.fault("word a worth 1\ntimes 2;", 0, NONE);
        Due.fault("word a worth 1`;", 1, 14);
    }

    private static void tokensAndBlanks() {
        Due.fault("word\na\nworth\n1\n;\n", 0, NONE);
        Due.fault("word a worth1;law one;", 0, NONE);
        Due.fault("word a worth 1 times2;alike a b;", 0, NONE);
        Due.fault("  \n word  a \n\n worth  1  ;  ", 0, NONE);
        Due.fault("worda worth 1;", 2, 0);
        Due.fault("word aworth 1;", 2, 12);
        int[] signs = {0, 9, 11, 13, 31, 33, 58, 60, 127, 160, 138, 255};
        for (int sign : signs) {
            Due.fault("word a" + (char) sign + "worth 1;", 1, 6);
            Due.fault("law one;" + (char) sign, 1, 8);
            Due.fault((char) sign + "law one;", 1, 0);
        }
        Due.fault("law one ;;", 2, 9);
    }

    private static void tokensThatCantStandThere() {
        String[] lines = {"word a worth 1 times 2;", "law one;", "law two;", "law other;", "alike a b;", "word q worth 1;word a worth 1;errand q;errand a after q;"};
        String[] keywords = {"word", "worth", "times", "law", "one", "two", "other", "alike", "errand", "after"};
        for (String line : lines) {
            for (String keyword : keywords) {
                int place = line.lastIndexOf(keyword);
                for (int i = 0; place >= 0 && i < keyword.length(); i++) {
                    String wrong = line.substring(0, place + i) + 'z' + line.substring(place + i + 1);
                    Due.fault(wrong, 2, place);
                }
            }
        }
        Due.fault("word a worth b;", 2, 13);
        Due.fault("word a worth ;", 2, 13);
        Due.fault("word a worth times 2;", 2, 13);
        Due.fault("word a worth 1 times b;", 2, 21);
        Due.fault("word a worth 1 times ;", 2, 21);
        Due.fault("word a worth 1 1;", 2, 15);
        Due.fault("word a worth 1 times 1 times 1;", 2, 23);
        Due.fault("word a b worth 1;", 2, 7);
        Due.fault("word a 1;", 2, 7);
        Due.fault("word a;", 2, 6);
        Due.fault("law;", 2, 3);
        Due.fault("law 1;", 2, 4);
        Due.fault("law one one;", 2, 8);
        Due.fault("alike a b b;", 2, 10);
        Due.fault("word a worth 1;errand a a;", 2, 24);
        Due.fault("word a worth 1;word b worth 1;errand a;errand b after a after a;", 2, 56);
        Due.fault("1;", 2, 0);
        Due.fault("a;", 2, 0);
    }

    private static void namesAndLetters() {
        LastLetter x = Due.told("word word worth 1;word worth worth 2;word times worth 3 times 3;word law worth 4;word one worth 5;"
                + "word alike worth 6;word errand worth 7;word after worth 8;errand errand;errand after after errand;");
        Due.is("4 any word is a name", x.about(0), 8);
        Due.is("4 of errands, too", x.about(1), 2);
        Due.is("4 times, thrice", x.word(2, 1), 3);
        Due.fault("alike a z;", 0, NONE);
        Due.fault("alike aa z;", 2, 6);
        Due.fault("alike a zz;", 2, 8);
        Due.fault("alike 1 z;", 2, 6);
        Due.fault("alike a 1;", 2, 8);
        Due.fault("alike ;", 2, 6);
        Due.fault("word ; worth 1;", 2, 5);
        Due.fault("errand ;", 2, 7);
    }

    private static String singles(int many) {
        StringBuilder text = new StringBuilder();
        for (int i = 0; i < many; i++) {
            text.append("word ").append((char) ('a' + i)).append(" worth 1;");
        }
        return text.toString();
    }

    private static void limitOfWords() {
        LastLetter x = Due.told(singles(24));
        Due.is("4 24 words", x.about(0), 24);
        Due.is("4 the last one's number", x.follow(23), 1 << 23);
        Due.is("4 no 25th", x.follow(24), NONE);
        Due.fault(singles(25), 2, 24 * 15);
        Due.fault(singles(24) + "law one; \n word y worth 1;", 2, 24 * 15 + 11);
        Due.fault(singles(24) + "word a worth 1;", 2, 24 * 15);
        Due.fault(singles(24) + "word #", 2, 24 * 15);
        Due.fault(singles(24) + "word", 2, 24 * 15);
        Due.fault(singles(24) + "alike a b;errand x;law two;", 0, NONE);
    }

    private static void limitOfWorthAndTimes() {
        LastLetter x = Due.told("word a worth 0;word b worth 99 times 1;word c worth 1 times 9;");
        Due.is("4 worth 0", x.say(0), 0);
        x.silence();
        Due.is("4 worth 99", x.say(1), 99);
        Due.is("4 once if not told", x.word(0, 1) + x.word(0, 0), 1);
        Due.is("4 once", x.word(1, 1) + x.word(1, 0), 1);
        Due.is("4 nine times", x.word(2, 1), 9);
        Due.fault("word a worth 99;", 0, NONE);
        Due.fault("word a worth 100;", 4, 13);
        Due.fault("word a worth 9999;", 4, 13);
        Due.fault("word a worth 1 times 1;", 0, NONE);
        Due.fault("word a worth 1 times 0;", 4, 21);
        Due.fault("word a worth 1 times 0000;", 4, 21);
        Due.fault("word a worth 1 times 9;", 0, NONE);
        Due.fault("word a worth 1 times 10;", 4, 21);
    }

    private static void limitOfLaws() {
        LastLetter x = Due.told("word ab worth 1;word b worth 1;");
        Due.is("4 one if not told", x.follow(0), 2);
        Due.fault("law one;", 0, NONE);
        Due.fault("law two;", 0, NONE);
        Due.fault("law other;", 0, NONE);
        Due.fault("law one;law two;", 2, 8);
        Due.fault("law one;word a worth 1;\nlaw one;", 2, 24);
        Due.fault("law one;law #", 2, 8);
        Due.fault("law three;", 2, 4);
        Due.fault("law on;", 2, 4);
        Due.fault("law ones;", 2, 4);
    }

    private static void limitOfAlikes() {
        String ten = "alike a b;".repeat(10);
        Due.fault(ten, 0, NONE);
        Due.fault(ten + "alike c d;", 2, 100);
        Due.fault(ten + " alike c c;", 2, 101);
        Due.fault(ten + "law one;alike", 2, 108);
        StringBuilder chain = new StringBuilder();
        for (int i = 0; i < 10; i++) {
            chain.append("alike ").append((char) ('a' + i)).append(' ').append((char) ('b' + i)).append(';');
        }
        LastLetter x = Due.told(chain + "word ak worth 1;word al worth 1;word la worth 1;");
        Due.is("4 alike through ten lines", x.follow(0), 0b011);
        Due.is("4 but no further", x.follow(1), 0b100);
    }

    private static void limitOfErrands() {
        String six = "errand a;errand b;errand c;errand d;errand e;errand f;";
        LastLetter x = Due.told(singles(7) + six);
        Due.is("4 six errands", x.about(1), 6);
        Due.fault(singles(7) + six + "errand g;", 2, 105 + 54);
        Due.fault(singles(7) + six + "errand a;", 2, 105 + 54);
        Due.fault(singles(7) + six + "\nerrand zz;", 2, 105 + 55);
        Due.fault(singles(7) + six + "errand", 2, 105 + 54);
    }

    private static void errandsToldAhead() {
        Due.fault("word a worth 1;errand a;", 0, NONE);
        Due.fault("errand a;word a worth 1;", 5, 7);
        Due.fault("word a worth 1;errand b;", 5, 22);
        Due.fault("word a worth 1;word b worth 1;errand a;errand b after a;", 0, NONE);
        Due.fault("word a worth 1;word b worth 1;errand b after a;errand a;", 5, 45);
        Due.fault("word a worth 1;errand a after a;", 5, 30);
        Due.fault("word a worth 1;word b worth 1;errand a;errand b after b;", 5, 54);
        Due.fault("word a worth 1;word b worth 1;errand a;errand b after zz;", 5, 54);
        Due.fault("word a worth 1;errand a after 1;", 2, 30);
        Due.fault("word a worth 1;errand a after ;", 2, 30);
    }

    private static void faultOfTheFirstPlace() {
        Due.fault("law three;#", 2, 4);
        Due.fault("# law three;", 1, 0);
        Due.fault("word a worth 100 times 10;", 4, 13);
        Due.fault("word a worth 100 #", 4, 13);
        Due.fault("alike a a a;", 3, 8);
        Due.fault("errand a after a;", 5, 7);
        Due.fault("word a worth 1;word a worth 100;", 3, 20);
        Due.fault("word a worth 1;errand a;errand a after b;", 3, 31);
        Due.fault("word a worth 1 times 0 times 1;", 4, 21);
        Due.fault("word a worth 1;word a", 3, 20);
    }

    private static void faultOfOnePlaceTheLeast() {
        Due.fault("word a worth 12345;", 1, 13);
        Due.fault("word a worth 100x;", 1, 13);
        Due.fault("errand abcdefghi;", 1, 7);
        Due.fault("alike abcdefghi b;", 1, 6);
        Due.fault("law abcdefghi;", 1, 4);
        Due.fault("law 9999;", 2, 4);
        Due.fault("word 100 worth 1;", 2, 5);
        Due.fault("errand 1 after 1;", 2, 7);
        Due.fault("alike ab ab;", 2, 6);
        Due.fault("alike a bb;", 2, 8);
    }

    private static void faultAtTheEnd() {
        String line = "word a worth 1 times 2;";
        int[] tokens = {4, 6, 12, 14, 20, 22};
        for (int end : tokens) {
            Due.fault(line.substring(0, end), 2, end);
            Due.fault(line.substring(0, end) + " \n", 2, end + 2);
        }
        Due.fault("law", 2, 3);
        Due.fault("law two", 2, 7);
        Due.fault("alike", 2, 5);
        Due.fault("alike a", 2, 7);
        Due.fault("alike a b", 2, 9);
        Due.fault("word a worth 1;errand", 2, 21);
        Due.fault("word a worth 1;errand a", 2, 23);
        Due.fault("word a worth 1;errand a after", 2, 29);
        Due.fault("word a worth 1;word b worth 1;errand a;errand b after a", 2, 55);
    }

    private static void faultThreeAtTheSecond() {
        Due.fault("word ab worth 1;word ba worth 1;word ab worth 2;", 3, 37);
        Due.fault("word abcdefgh worth 1;word abcdefgi worth 1;", 0, NONE);
        Due.fault("word a worth 1;word aa worth 1;word aaa worth 1;", 0, NONE);
        Due.fault("alike z z;", 3, 8);
        Due.fault("alike a b;alike b a;", 0, NONE);
        Due.fault("word a worth 1;word b worth 1;errand b;errand a after b;errand b after a;", 3, 63);
    }
}
