/** The boundary cases of promises 12 to 21: ROWS without, of one and of too many WORDS, SURPLUS, MENDED, JOIN, TELLING. */
public final class RowEdgeTest {
    private static final int NONE = LastLetter.NONE;
    private static final int SPENT = -2;
    private static final int[] NEVER = {Integer.MIN_VALUE, -33, -32, -1, 24, 25, 31, 32, 33, 64, Integer.MAX_VALUE};

    private RowEdgeTest() {
    }

    public static void main(String[] args) {
        withoutWords();
        ofOneWord();
        ofOneWordRound();
        allOfLikeOnesTheFirst();
        allBehindZeroNoneLies();
        roundOfLikeOnesTheFirst();
        longestNoneTwice();
        longestOfLikeOnesTheFirst();
        worthyOfWorthZero();
        worthyAheadOfLongerOnes();
        worthyOfMost();
        partedOfEachAlone();
        partedOfLikeOnesTheFirst();
        missedOfNoneSuch();
        missedByHowMuch();
        with14Words();
        with14WordsInAChain();
        spentWith15Words();
        spentWith24Words();
        liesOfNoneSuch();
        liesTillTheNextOne();
        surplusOfNoneSuch();
        surplusOf24Words();
        surplusByLawOneAlways();
        mendedWithoutWords();
        mendedOf24Words();
        mendedBySound();
        joinOfOne();
        joinOfNoneSuch();
        joinOf24Words();
        joinOfLikeOnesTheFirst();
        tellingWithoutErrands();
        tellingOfNone();
        tellingOfNoneAfterOne();
        tellingOfMostWords();
        tellingForTheFirstTimeBehind();
        tellingOfLikeOnesTheFirst();
        whatWasSaidCountsNot();
        Due.finish();
    }

    private static void withoutWords() {
        LastLetter x = new LastLetter();
        Due.is("12 all", x.all(false), 1);
        Due.lies("12 the empty row", x);
        Due.is("12 round", x.all(true), 1);
        Due.lies("12 the empty row", x);
        Due.is("13 longest", x.longest(), 0);
        Due.lies("13 the empty row", x);
        Due.is("14 worthy", x.worthy(), 0);
        Due.lies("14 the empty row", x);
        Due.is("15 parted", x.parted(), 0);
        Due.lies("15 no row", x);
        Due.is("16 missed", x.missed(0), NONE);
        Due.tell(x, Due.chain(3));
        x.longest();
        x.tongue();
        Due.lies("17 none behind the empty tongue", x);
        Due.is("12 all again", x.all(false), 1);
        Due.is("13 longest again", x.longest(), 0);
    }

    private static void ofOneWord() {
        LastLetter x = Due.told("word ab worth 7;");
        Due.is("12 all", x.all(false), 1);
        Due.lies("12 all", x, 0);
        Due.is("12 not round", x.all(true), 0);
        Due.lies("12 not round", x);
        Due.is("13 longest", x.longest(), 1);
        Due.lies("13 longest", x, 0);
        Due.is("14 worthy", x.worthy(), 7);
        Due.lies("14 worthy", x, 0);
        Due.is("15 parted", x.parted(), 1);
        Due.lies("15 parted", x, 0);
        Due.is("16 missed", x.missed(0), 1);
        Due.lies("16 missed", x);
    }

    private static void ofOneWordRound() {
        LastLetter x = Due.told("word aba worth 7;");
        Due.is("12 round: it may follow itself", x.all(true), 1);
        Due.lies("12 round", x, 0);
        Due.is("12 by law other it may not", Due.told("law other;word aba worth 7;").all(true), 0);
        Due.is("12 by law other it may", Due.told("law other;word ab worth 7;").all(true), 1);
        Due.is("12 by law two one letter may not", Due.told("law two;word a worth 7;").all(true), 0);
    }

    private static void allOfLikeOnesTheFirst() {
        LastLetter x = Due.told(Due.loops(5));
        Due.is("12 all", x.all(false), 1);
        Due.lies("12 the first", x, 0, 1, 2, 3, 4);
        LastLetter y = Due.told("word cd worth 1;word bc worth 1;word db worth 1;word cc worth 1;");
        Due.is("12 all", y.all(false), 1);
        Due.lies("12 the first that is a row", y, 0, 2, 1, 3);
    }

    private static void allBehindZeroNoneLies() {
        LastLetter x = Due.told("word ab worth 1;word cd worth 1;");
        x.longest();
        Due.is("12 no all", x.all(false), 0);
        Due.lies("12 none", x);
        x.longest();
        Due.is("12 no round", x.all(true), 0);
        Due.lies("12 none", x);
    }

    private static void roundOfLikeOnesTheFirst() {
        LastLetter x = Due.told("word bc worth 1;word ab worth 1;word ca worth 1;word cb worth 1;word bb worth 1;word ba worth 1;word ac worth 1;");
        Due.is("12 round", x.all(true), 1);
        Due.lies("12 the first round begins with word 0", x, 0, 2, 1, 4, 5, 6, 3);
        LastLetter y = Due.told(Due.chain(3));
        Due.is("12 all", y.all(false), 1);
        Due.is("12 but not round", y.all(true), 0);
    }

    private static void longestNoneTwice() {
        LastLetter x = Due.told("word aa worth 1 times 9;word ab worth 1 times 9;");
        Due.is("13 none twice", x.longest(), 2);
        Due.lies("13 none twice", x, 0, 1);
        LastLetter y = Due.told("word ab worth 1;word cd worth 1;word ef worth 1;");
        Due.is("13 one word at least", y.longest(), 1);
        Due.lies("13 the first of three", y, 0);
    }

    private static void longestOfLikeOnesTheFirst() {
        LastLetter x = Due.told("word xy worth 9;word bc worth 1;word ab worth 1;word bd worth 1;");
        Due.is("13 two", x.longest(), 2);
        Due.lies("13 the first of two", x, 2, 1);
    }

    private static void worthyOfWorthZero() {
        LastLetter x = Due.told("word bc worth 0;word ab worth 0;");
        Due.is("14 worth 0", x.worthy(), 0);
        Due.lies("14 one word at least, and no more", x, 0);
    }

    private static void worthyAheadOfLongerOnes() {
        LastLetter x = Due.told("word aba worth 4;word aca worth 0;");
        Due.is("14 worth 4", x.worthy(), 4);
        Due.lies("14 ahead of the longer one", x, 0);
        LastLetter y = Due.told("word aca worth 0;word aba worth 4;");
        Due.is("14 worth 4", y.worthy(), 4);
        Due.lies("14 by the first word's number", y, 0, 1);
        LastLetter z = Due.told("word ab worth 4;word bc worth 0;word cd worth 0;word bd worth 2;");
        Due.is("14 worth 6", z.worthy(), 6);
        Due.lies("14 worth 6", z, 0, 3);
    }

    private static void worthyOfMost() {
        LastLetter x = Due.told("word ab worth 1;word bc worth 1;word cd worth 1;word xy worth 99;");
        Due.is("14 one of worth 99", x.worthy(), 99);
        Due.lies("14 one of worth 99", x, 3);
        Due.is("14 14 words of worth 99", Due.told(Due.loops(14).replaceAll("worth [0-9]+", "worth 99")).worthy(), 14 * 99);
        LastLetter y = Due.told("word aa worth 50 times 9;");
        Due.is("14 none twice", y.worthy(), 50);
    }

    private static void partedOfEachAlone() {
        LastLetter x = Due.told("word ba worth 1;word dc worth 1;word fe worth 1;");
        Due.is("15 each alone", x.parted(), 3);
        Due.lies("15 in their order", x, 0, 1, 2);
        StringBuilder text = new StringBuilder();
        for (int i = 0; i < 14; i++) {
            text.append("word a").append((char) ('a' + i)).append("z worth 1;");
        }
        Due.is("15 14 rows", Due.told(text.toString()).parted(), 14);
    }

    private static void partedOfLikeOnesTheFirst() {
        LastLetter x = Due.told("word bc worth 1;word ab worth 1;word bd worth 1;");
        Due.is("15 two rows", x.parted(), 2);
        Due.lies("15 bc, ab bd", x, 0, 1, 2);
        LastLetter y = Due.told("word ab worth 1;word bc worth 1;word bb worth 1;word dd worth 1;");
        Due.is("15 two rows", y.parted(), 2);
        Due.lies("15 ab bb bc, dd", y, 0, 2, 1, 3);
        LastLetter z = Due.told("word da worth 1;word ab worth 1;word cd worth 1;");
        Due.is("15 one row", z.parted(), 1);
        Due.lies("15 fewest count more than the first", z, 2, 0, 1);
    }

    private static void missedOfNoneSuch() {
        LastLetter x = Due.told(Due.chain(14));
        Due.is("16 the last", x.missed(13), 1);
        Due.is("16 the first that is none", x.missed(14), NONE);
        for (int word : NEVER) {
            x.longest();
            Due.is("16 missed(" + word + ")", x.missed(word), NONE);
            Due.lies("16 none lies there", x);
        }
    }

    private static void missedByHowMuch() {
        LastLetter x = Due.told(Due.chain(5));
        int[] due = {1, 2, 3, 2, 1};
        for (int word = 0; word < 5; word++) {
            x.longest();
            Due.is("16 missed(" + word + ")", x.missed(word), due[word]);
            Due.lies("16 none lies there", x);
        }
        Due.is("16 by nothing", Due.told(Due.chain(3) + "word bbc worth 1;").missed(1), 0);
    }

    private static void with14Words() {
        LastLetter x = Due.told(Due.loops(14));
        int[] row = {0, 1, 2, 3, 4, 5, 6, 7, 8, 9, 10, 11, 12, 13};
        Due.is("12 all of 14", x.all(false), 1);
        Due.lies("12 all of 14", x, row);
        Due.is("12 round of 14", x.all(true), 1);
        Due.lies("12 round of 14", x, row);
        Due.is("13 longest of 14", x.longest(), 14);
        Due.lies("13 longest of 14", x, row);
        Due.is("14 worthy of 14", x.worthy(), 91);
        Due.lies("14 worthy of 14", x, row);
        Due.is("15 parted of 14", x.parted(), 1);
        Due.lies("15 parted of 14", x, row);
        Due.is("16 missed of 14", x.missed(13), 1);
    }

    private static void with14WordsInAChain() {
        StringBuilder text = new StringBuilder();
        int[] row = new int[14];
        for (int i = 0; i < 14; i++) {
            row[i] = 13 - i;
            text.append("word ").append((char) ('z' - i - 1)).append((char) ('z' - i)).append(" worth 2;");
        }
        LastLetter x = Due.told(text.toString());
        Due.is("12 told from its end", x.all(false), 1);
        Due.lies("12 told from its end", x, row);
        Due.is("12 no round", x.all(true), 0);
        Due.is("13 all 14", x.longest(), 14);
        Due.lies("13 all 14", x, row);
        Due.is("14 all 14", x.worthy(), 28);
        Due.lies("14 all 14", x, row);
        Due.is("15 one row", x.parted(), 1);
        Due.is("16 in the middle", x.missed(6), 7);
    }

    private static void spent(LastLetter x) {
        int words = x.about(0);
        x.join(0, 1);
        Due.is("12 all of " + words, x.all(false), SPENT);
        Due.lies("12 none lies there", x);
        x.join(0, 1);
        Due.is("12 round of " + words, x.all(true), SPENT);
        Due.lies("12 none lies there", x);
        Due.is("13 longest of " + words, x.longest(), SPENT);
        Due.is("14 worthy of " + words, x.worthy(), SPENT);
        Due.is("15 parted of " + words, x.parted(), SPENT);
        Due.is("16 missed of " + words, x.missed(0), SPENT);
        Due.is("16 missed of " + words, x.missed(words - 1), SPENT);
        Due.lies("16 none lies there", x);
        Due.is("16 none such of " + words, x.missed(words), NONE);
        Due.is("16 none such of " + words, x.missed(-1), NONE);
    }

    private static void spentWith15Words() {
        LastLetter x = Due.told(Due.loops(15));
        spent(x);
        Due.tell(x, Due.loops(14));
        Due.is("12 14 words again", x.all(false), 1);
    }

    private static void spentWith24Words() {
        LastLetter x = Due.told(Due.loops(24));
        spent(x);
        Due.is("18 surplus is not spent", x.surplus(0), 0);
        Due.is("19 mended is not spent", x.mended(), 0);
        Due.is("20 join is not spent", x.join(23, 0), 2);
        Due.is("21 telling is not spent", x.telling(), 0);
    }

    private static void liesOfNoneSuch() {
        LastLetter x = Due.told(Due.chain(4));
        Due.is("17 none at first", x.lies(0), NONE);
        x.longest();
        Due.is("17 the first", x.lies(0), 0);
        Due.is("17 the last", x.lies(3), 3);
        int[] none = {-1, 4, 5, 159, 160, 161, Integer.MIN_VALUE, Integer.MAX_VALUE};
        for (int i : none) {
            Due.is("17 lies(" + i + ")", x.lies(i), NONE);
        }
        x.join(1, 2);
        Due.is("17 the last of a shorter one", x.lies(1), 2);
        Due.is("17 nothing of the longer one", x.lies(2), NONE);
    }

    private static void liesTillTheNextOne() {
        LastLetter x = Due.told(Due.chain(4));
        x.longest();
        x.say(0);
        x.talk(1, 3);
        x.silence();
        x.image(0);
        x.back(0);
        x.game(0);
        x.wins(0);
        x.deep(0);
        x.score(0);
        x.again(0);
        x.surplus(0);
        x.mended();
        x.hear(0, 0, 0);
        x.fits(2, 0);
        x.can(2, 0, 0);
        x.lies(-1);
        Due.lies("17 what tells no row leaves it", x, 0, 1, 2, 3);
        x.telling();
        Due.lies("17 telling without errands lays the empty one", x);
    }

    private static void surplusOfNoneSuch() {
        LastLetter x = Due.told("word az worth 1;");
        Due.is("18 a", x.surplus(0), 1);
        Due.is("18 z", x.surplus(25), -1);
        int[] none = {-1, 26, 27, 97, Integer.MIN_VALUE, Integer.MAX_VALUE};
        for (int letter : none) {
            Due.is("18 surplus(" + letter + ")", x.surplus(letter), -1000);
        }
        Due.is("18 without words", new LastLetter().surplus(25), 0);
        Due.is("18 none such without words", new LastLetter().surplus(26), -1000);
    }

    private static void surplusOf24Words() {
        StringBuilder text = new StringBuilder();
        for (int i = 0; i < 24; i++) {
            text.append("word a").append((char) ('a' + i)).append("z worth 1;");
        }
        LastLetter x = Due.told(text.toString());
        Due.is("18 24 begin with it", x.surplus(0), 24);
        Due.is("18 24 end with it", x.surplus(25), -24);
        Due.is("18 neither", x.surplus(1), 0);
        Due.tell(x, text + "alike a z;");
        Due.is("18 by sound both", x.surplus(0), 0);
        Due.is("18 by sound both", x.surplus(25), 0);
    }

    private static void surplusByLawOneAlways() {
        String words = "word ab worth 1 times 9;word ac worth 1;alike c d;";
        String[] laws = {"", "law one;", "law two;", "law other;"};
        for (String law : laws) {
            LastLetter x = Due.told(law + words);
            x.say(0);
            Due.is("18 a, " + law, x.surplus(0), 2);
            Due.is("18 c, " + law, x.surplus(2), -1);
            Due.is("18 d by sound, " + law, x.surplus(3), -1);
            Due.is("19 mended by law one, " + law, x.mended(), 1);
        }
    }

    private static void mendedWithoutWords() {
        Due.is("19 without words", new LastLetter().mended(), 0);
        Due.is("19 one word", Due.told("word ab worth 1;").mended(), 0);
        Due.is("19 one letter", Due.told("word a worth 1;").mended(), 0);
        Due.is("19 two apart", Due.told("word a worth 1;word b worth 1;").mended(), 1);
        Due.is("19 all there", Due.told(Due.chain(2)).mended(), 0);
    }

    private static void mendedOf24Words() {
        StringBuilder apart = new StringBuilder();
        StringBuilder alike = new StringBuilder();
        for (int i = 0; i < 24; i++) {
            apart.append("word ").append((char) ('a' + i)).append(" worth 1;");
            alike.append("word a").append((char) ('a' + i)).append("z worth 1;");
        }
        Due.is("19 24 apart", Due.told(apart.toString()).mended(), 23);
        Due.is("19 24 from a to z", Due.told(alike.toString()).mended(), 23);
        Due.is("19 24 in a chain", Due.told(Due.chain(24)).mended(), 0);
        Due.is("19 24 in loops", Due.told(Due.loops(24)).mended(), 0);
    }

    private static void mendedBySound() {
        Due.is("19 three apart", Due.told("word ab worth 1;word cd worth 1;word ef worth 1;").mended(), 2);
        Due.is("19 two of them by sound one row", Due.told("word ab worth 1;word cd worth 1;word ef worth 1;alike f a;").mended(), 1);
        Due.is("19 but b and d, a and c are no row", Due.told("word ab worth 1;word cd worth 1;alike a c;alike b d;").mended(), 1);
        Due.is("19 one surplus is no fault", Due.told("word ab worth 1;word bc worth 1;word ba worth 1;").mended(), 0);
        Due.is("19 a round and a row apart", Due.told("word ab worth 1;word ba worth 1;word xy worth 1;").mended(), 1);
    }

    private static void joinOfOne() {
        LastLetter x = Due.told("word ab worth 1;word aa worth 1;");
        Due.is("20 of one: that alone", x.join(0, 0), 1);
        Due.lies("20 that alone", x, 0);
        Due.is("20 though it may follow itself", x.join(1, 1), 1);
        Due.lies("20 that alone", x, 1);
        Due.is("20 two", x.join(1, 0), 2);
        Due.lies("20 two", x, 1, 0);
    }

    private static void joinOfNoneSuch() {
        LastLetter x = Due.told(Due.chain(3));
        for (int word : NEVER) {
            x.longest();
            Due.is("20 join(" + word + ", 0)", x.join(word, 0), NONE);
            Due.lies("20 none", x);
            x.longest();
            Due.is("20 join(0, " + word + ")", x.join(0, word), NONE);
            Due.lies("20 none", x);
        }
        Due.is("20 join(3, 3)", x.join(3, 3), NONE);
        Due.is("20 join(-1, -1)", x.join(-1, -1), NONE);
        x.longest();
        Due.is("20 no way back", x.join(2, 0), NONE);
        Due.lies("20 none", x);
        Due.is("20 without words", new LastLetter().join(0, 0), NONE);
    }

    private static void joinOf24Words() {
        LastLetter x = Due.told(Due.chain(24));
        int[] row = new int[24];
        for (int i = 0; i < 24; i++) {
            row[i] = i;
        }
        Due.is("20 through all 24", x.join(0, 23), 24);
        Due.lies("20 through all 24", x, row);
        Due.is("20 the last alone", x.join(23, 23), 1);
        Due.is("20 no way back", x.join(23, 0), NONE);
    }

    private static void joinOfLikeOnesTheFirst() {
        LastLetter x = Due.told("word cd worth 1;word ab worth 1;word bxc worth 1;word bc worth 1;word byc worth 1;");
        Due.is("20 three", x.join(1, 0), 3);
        Due.lies("20 through the first", x, 1, 2, 0);
        LastLetter y = Due.told("word ab worth 1;word bz worth 1;word bc worth 1;word bd worth 1;word dxe worth 1;word ce worth 1;word ef worth 1;");
        Due.is("20 four", y.join(0, 6), 4);
        Due.lies("20 the first counts most", y, 0, 2, 5, 6);
    }

    private static void tellingWithoutErrands() {
        LastLetter x = Due.told(Due.chain(3));
        x.longest();
        Due.is("21 without errands", x.telling(), 0);
        Due.lies("21 the empty one", x);
        Due.is("21 without words", new LastLetter().telling(), 0);
    }

    private static void tellingOfNone() {
        LastLetter x = Due.told(Due.chain(3) + "errand bc;errand ab after bc;");
        x.longest();
        Due.is("21 no way back", x.telling(), NONE);
        Due.lies("21 none", x);
        Due.is("21 but in any order", Due.told(Due.chain(3) + "errand cd;errand ab;").telling(), 3);
        Due.is("21 one errand: its word alone", Due.told(Due.chain(3) + "errand cd;").telling(), 1);
    }

    /** What the search for one TELLING has left behind must not be found by the next. */
    private static void tellingOfNoneAfterOne() {
        LastLetter x = Due.told("word ab worth 1;word bc worth 1;errand ab;errand bc after ab;");
        Due.is("21 ab bc", x.telling(), 2);
        Due.tell(x, "word ab worth 1;word cd worth 1;errand ab;errand cd;");
        Due.is("21 none", x.telling(), NONE);
        Due.lies("21 none", x);
        Due.is("20 none", x.join(0, 1), NONE);
    }

    /** A ring of 24 WORDS in which each ERRAND stands one ahead of that after which it is told. */
    private static void tellingOfMostWords() {
        StringBuilder text = new StringBuilder();
        for (int i = 0; i < 24; i++) {
            text.append("word ").append(ring(i)).append(" worth 1;");
        }
        text.append("errand ").append(ring(5)).append(';');
        for (int i = 4; i >= 0; i--) {
            text.append("errand ").append(ring(i)).append(" after ").append(ring(i + 1)).append(';');
        }
        LastLetter x = Due.told(text.toString());
        int[] row = new int[116];
        for (int i = 0; i < row.length; i++) {
            row[i] = (5 + i) % 24;
        }
        Due.is("21 nearly five times round", x.telling(), 116);
        Due.lies("21 nearly five times round", x, row);
    }

    private static String ring(int i) {
        return "" + (char) ('a' + i) + (char) ('a' + (i + 1) % 24);
    }

    private static void tellingForTheFirstTimeBehind() {
        LastLetter x = Due.told("word ab worth 1;word ba worth 1;errand ab;errand ba after ab;");
        Due.is("21 two", x.telling(), 2);
        Due.lies("21 ab ba", x, 0, 1);
        LastLetter y = Due.told("word ab worth 1;word ba worth 1;word bx worth 1;errand ba;errand ab after ba;errand bx after ab;");
        Due.is("21 three", y.telling(), 3);
        Due.lies("21 ba ab bx", y, 1, 0, 2);
        LastLetter z = Due.told("word aa worth 1;word ab worth 1;word ba worth 1;errand ba;errand aa after ba;errand ab after ba;");
        Due.is("21 both after one", z.telling(), 3);
        Due.lies("21 ba aa ab", z, 2, 0, 1);
    }

    private static void tellingOfLikeOnesTheFirst() {
        LastLetter x = Due.told(Due.loops(4) + "errand ada;errand aca;");
        Due.is("21 two", x.telling(), 2);
        Due.lies("21 in the words' order", x, 2, 3);
        LastLetter y = Due.told("word by worth 1;word bxc worth 1;word ab worth 1;word bc worth 1;word cd worth 1;errand ab;errand cd;");
        Due.is("21 three", y.telling(), 3);
        Due.lies("21 through the first", y, 2, 1, 4);
    }

    private static void whatWasSaidCountsNot() {
        LastLetter x = Due.told(Due.chain(3) + "errand ab;");
        x.say(0);
        x.say(1);
        x.say(2);
        Due.is("12 all", x.all(false), 1);
        Due.is("13 longest", x.longest(), 3);
        Due.is("14 worthy", x.worthy(), 3);
        Due.is("15 parted", x.parted(), 1);
        Due.is("16 missed", x.missed(1), 2);
        Due.is("20 join", x.join(0, 2), 3);
        Due.is("21 telling", x.telling(), 1);
    }
}
