/** The boundary cases of promises 6 to 11, 26 and 34 to 37: what may FOLLOW, TALKS, ERRANDS, w, BOXES. */
public final class TalkEdgeTest {
    private static final int NONE = LastLetter.NONE;
    private static final int[] NEVER = {Integer.MIN_VALUE, -33, -32, -1, 24, 25, 31, 32, 33, 64, Integer.MAX_VALUE};
    /** 0 ab, 1 bc twice, 2 cb, 3 xx. */
    private static final String FOUR = "word ab worth 3;word bc worth 2 times 2;word cb worth 5;word xx worth 1;errand bc;errand cb after bc;";

    private TalkEdgeTest() {
    }

    public static void main(String[] args) {
        followOfNoneSuch();
        followOf24Words();
        followBySound();
        followByLawOne();
        followByLawTwo();
        followByLawOther();
        mayAtFirstAndWithoutWords();
        mayAsOftenAsTold();
        sayRefusedDoesNothing();
        sayNineTimes();
        silenceOfNothing();
        silenceCountsOn();
        talkOfNoneAndOf100();
        talkRefusedDoesNothing();
        talkTillNoneMayBe();
        talkGoesOn();
        wayOfLikeOnesTheFirst();
        wayByWhatIsBehind();
        wayByItsOwnNumber();
        wayByWhatIsLeft();
        wayByDraw();
        drawWraps();
        drawOfNoneIsNoDraw();
        wordOfNoneSuch();
        wordWhenUsedUp();
        doneInOrderOnly();
        doneOfSix();
        doneInWhateverTalk();
        seedOfAnyNumber();
        imageOfNoBox();
        imageAnewInTheSameBox();
        backOfNothing();
        backAsItWasKept();
        backLeavesTheRest();
        aboutOfAnotherWhat();
        aboutTheLatest();
        aboutTheWorthOfAll();
        the512thCall();
        Due.finish();
    }

    private static void followOfNoneSuch() {
        LastLetter x = Due.told(FOUR);
        Due.is("6 the last", x.follow(3), 8);
        Due.is("6 one behind", x.follow(4), NONE);
        for (int word : NEVER) {
            Due.is("6 follow(" + word + ")", x.follow(word), NONE);
        }
        Due.is("6 without words", new LastLetter().follow(0), NONE);
    }

    private static void followOf24Words() {
        LastLetter x = Due.told(Due.loops(24));
        Due.is("6 all 24 behind the first", x.follow(0), 0xFFFFFF);
        Due.is("6 all 24 behind the last", x.follow(23), 0xFFFFFF);
        for (int word : NEVER) {
            Due.is("6 follow(" + word + ") of 24", x.follow(word), NONE);
        }
    }

    private static void followBySound() {
        LastLetter x = Due.told("word ab worth 1;alike b c;word da worth 1;alike e d;word ca worth 1;word ea worth 1;alike c d;");
        Due.is("6 two sounds made one by a third line", x.follow(0), 0b1110);
        LastLetter y = Due.told("word ab worth 1;word da worth 1;word ca worth 1;alike b c;alike e d;");
        Due.is("6 but not without it", y.follow(0), 0b100);
        LastLetter z = Due.told("alike z a;alike a z;word az worth 1;word zb worth 1;word ba worth 1;");
        Due.is("6 first and last letter of the alphabet", z.follow(0), 0b011);
        Due.is("6 told twice is as once", z.follow(2), 0b011);
    }

    private static void followByLawOne() {
        LastLetter x = Due.told("law one;word a worth 1;word ab worth 1;word ba worth 1;word aba worth 1;");
        Due.is("6 a word of one letter behind itself", x.follow(0), 0b1011);
        Due.is("6 another one", x.follow(1), 0b0100);
        Due.is("6 first and last the same", x.follow(3), 0b1011);
    }

    private static void followByLawTwo() {
        LastLetter x = Due.told("law two;word ab worth 1;word a worth 1;word b worth 1;word ba worth 1;word xab worth 1;word abx worth 1;");
        Due.is("6 two letters behind themselves", x.follow(0), 0b100001);
        Due.is("6 never behind one letter", x.follow(1), 0);
        Due.is("6 never one letter", x.follow(2), 0);
        Due.is("6 not in the other order", x.follow(3), 0b001000);
        Due.is("6 its last two", x.follow(4), 0b100001);
        LastLetter y = Due.told("law two;alike a c;alike b d;word ab worth 1;word cd worth 1;word cb worth 1;word bc worth 1;word ae worth 1;");
        Due.is("6 both by sound", y.follow(0), 0b00111);
        Due.is("6 both by sound", y.follow(2), 0b00111);
        Due.is("6 but both", y.follow(4), 0b10000);
        LastLetter z = Due.told("law two;alike a b;word a worth 1;word aa worth 1;word ab worth 1;");
        Due.is("6 one letter is not two of a sound", z.follow(0), 0);
        Due.is("6 nor behind two", z.follow(1), 0b110);
    }

    private static void followByLawOther() {
        LastLetter x = Due.told("law other;word a worth 1;word ab worth 1;word ba worth 1;alike b d;word de worth 1;");
        Due.is("6 not itself, if so by one", x.follow(0), 0b1100);
        Due.is("6 itself, if not so by one", x.follow(1), 0b0011);
        Due.is("6 behind ba", x.follow(2), 0b1100);
        Due.is("6 not so by sound", x.follow(3), 0b1111);
    }

    private static void mayAtFirstAndWithoutWords() {
        Due.is("7 without words", new LastLetter().may(), 0);
        Due.is("7 any of 24 first", Due.told(Due.loops(24)).may(), 0xFFFFFF);
        LastLetter x = Due.told(FOUR);
        Due.is("7 any first", x.may(), 15);
        x.say(0);
        Due.is("7 then what may follow", x.may(), 2);
        x.say(1);
        x.silence();
        Due.is("7 any that is left", x.may(), 14);
    }

    private static void mayAsOftenAsTold() {
        LastLetter x = Due.told("word aa worth 1 times 2;word ab worth 1;");
        x.say(0);
        Due.is("7 itself, once more", x.may(), 3);
        x.say(0);
        Due.is("7 no more", x.may(), 2);
        x.say(1);
        Due.is("7 a dead end", x.may(), 0);
        x.silence();
        Due.is("7 all are used up", x.may(), 0);
    }

    private static void sayRefusedDoesNothing() {
        LastLetter x = Due.told(FOUR);
        x.say(1);
        x.join(0, 2);
        View before = View.of(x);
        for (int word : NEVER) {
            Due.is("8 say(" + word + ")", x.say(word), NONE);
        }
        Due.is("8 the first that is none", x.say(4), NONE);
        Due.is("8 it may not follow", x.say(0), NONE);
        Due.is("8 nor itself", x.say(1), NONE);
        before.stays("8 refused", x);
        x.say(2);
        x.say(1);
        before = View.of(x);
        Due.is("8 used up", x.say(2), NONE);
        before.stays("8 used up", x);
        Due.is("8 without words", new LastLetter().say(0), NONE);
    }

    private static void sayNineTimes() {
        LastLetter x = Due.told("word aa worth 99 times 9;word a worth 0;");
        for (int i = 1; i <= 9; i++) {
            Due.is("8 the " + i + ". time", x.say(0), 99);
        }
        Due.is("8 the tenth time", x.say(0), NONE);
        Due.is("8 worth 0 is no NONE", x.say(1), 0);
        Due.is("8 its second time", x.say(1), NONE);
        Due.is("8 worth of all", x.about(9), 891);
    }

    private static void silenceOfNothing() {
        LastLetter none = new LastLetter();
        Due.is("9 without words", none.silence(), 0);
        LastLetter x = Due.told(FOUR);
        View before = View.of(x);
        Due.is("9 nothing was said", x.silence(), 0);
        before.stays("9 of nothing", x);
    }

    private static void silenceCountsOn() {
        LastLetter x = Due.told(FOUR);
        x.say(0);
        x.say(1);
        x.say(2);
        Due.is("9 three", x.silence(), 3);
        Due.is("9 none in the new talk", x.about(2), 0);
        Due.is("9 none is the latest", x.about(3), NONE);
        Due.is("9 as often as told counts on", x.word(1, 1), 1);
        Due.is("9 said in the old one", x.say(0), NONE);
        Due.is("9 what is done counts on", x.done(), 3);
        Due.is("9 worth counts on", x.about(9), 10);
        Due.is("9 at once again", x.silence(), 0);
    }

    private static String ninefold(int many) {
        return Due.loops(many).replace(";", " times 9;");
    }

    private static void talkOfNoneAndOf100() {
        LastLetter x = Due.told(ninefold(12));
        View before = View.of(x);
        for (int way = 0; way <= 4; way++) {
            Due.is("10 none by way " + way, x.talk(0, way), 0);
        }
        before.stays("10 none", x);
        Due.is("10 a hundred", x.talk(100, 0), 100);
        Due.is("10 in the talk", x.about(2), 100);
        Due.is("10 eight are left", x.talk(100, 4), 8);
        Due.is("10 none is left", x.talk(100, 2), 0);
        for (int way = 0; way <= 4; way++) {
            Due.is("10 a hundred by way " + way, Due.told(ninefold(12)).talk(100, way), 100);
        }
    }

    private static void talkRefusedDoesNothing() {
        LastLetter x = Due.told(ninefold(12));
        x.talk(3, 3);
        View before = View.of(x);
        int[] words = {-1, -2, 101, 102, Integer.MIN_VALUE, Integer.MAX_VALUE};
        for (int many : words) {
            Due.is("10 talk(" + many + ", 3)", x.talk(many, 3), NONE);
            Due.is("10 talk(" + many + ", 5)", x.talk(many, 5), NONE);
        }
        int[] ways = {-1, -2, 5, 6, Integer.MIN_VALUE, Integer.MAX_VALUE};
        for (int way : ways) {
            Due.is("10 talk(1, " + way + ")", x.talk(1, way), NONE);
            Due.is("10 talk(0, " + way + ")", x.talk(0, way), NONE);
        }
        before.stays("10 refused", x);
        Due.is("10 refused without words, too", new LastLetter().talk(101, 0), NONE);
        Due.is("10 refused without words, too", new LastLetter().talk(0, 5), NONE);
    }

    private static void talkTillNoneMayBe() {
        for (int way = 0; way <= 4; way++) {
            Due.is("10 without words by way " + way, new LastLetter().talk(100, way), 0);
        }
        LastLetter x = Due.told(Due.chain(24));
        x.say(0);
        Due.is("10 the rest of the chain", x.talk(100, 1), 23);
        Due.is("10 its last one", x.about(3), 23);
        LastLetter y = Due.told(Due.chain(5));
        y.say(0);
        Due.is("10 just so many", y.talk(4, 0), 4);
        LastLetter z = Due.told(Due.chain(5));
        z.say(0);
        Due.is("10 fewer", z.talk(3, 0), 3);
        Due.is("10 the one ahead of the last", z.about(3), 3);
    }

    private static void talkGoesOn() {
        LastLetter x = Due.told(FOUR);
        x.say(0);
        Due.is("10 only bc may follow", x.talk(1, 2), 1);
        Due.is("10 bc", x.about(3), 1);
        Due.is("10 two in the talk", x.about(2), 2);
        Due.is("10 its errand is done", x.done(), 1);
        Due.is("10 worth of both", x.about(9), 5);
    }

    private static int chosen(String text, int way) {
        LastLetter x = Due.told(text);
        x.talk(1, way);
        return x.about(3);
    }

    private static void wayOfLikeOnesTheFirst() {
        for (int way = 0; way <= 4; way++) {
            if (way != 3) {
                Due.is("10 of like ones by way " + way, chosen(ninefold(3).replaceAll("worth .", "worth 5"), way), 0);
            }
        }
        String text = "word xa worth 1;word ab worth 8 times 4;word ba worth 8 times 4;";
        Due.is("10 most worth: the first of two", chosen(text, 2), 1);
        Due.is("10 left most often: the first of two", chosen(text, 4), 1);
        Due.is("10 most behind: the first", chosen(text, 0), 0);
        Due.is("10 fewest behind: the first", chosen(text, 1), 0);
        Due.is("10 worth 99 behind worth 98", chosen("word a worth 98;word b worth 99;word c worth 99;", 2), 1);
        Due.is("10 worth 0 alone", chosen("word a worth 0;", 2), 0);
    }

    private static void wayByWhatIsBehind() {
        String text = "word ax worth 1;word ab worth 1;word bc worth 1;word bd worth 1;word ca worth 1;word da worth 1;";
        Due.is("10 most behind: ab, ca, da have two", chosen(text, 0), 1);
        Due.is("10 fewest behind: ax has none", chosen(text, 1), 0);
        LastLetter x = Due.told(text);
        x.say(2);
        x.silence();
        x.say(3);
        x.silence();
        Due.is("10 what is used up is not behind", x.talk(1, 0), 1);
        Due.is("10 ab has none now: ca has two", x.about(3), 4);
        LastLetter y = Due.told("word ab worth 1 times 9;word cd worth 1;word ba worth 1 times 9;word bd worth 1;word da worth 1;word dc worth 1;word dx worth 1;");
        Due.is("10 words count, not how often each is left", y.talk(1, 0), 1);
        Due.is("10 cd has three behind it, ab two", y.about(3), 1);
    }

    private static void wayByItsOwnNumber() {
        Due.is("10 once: nothing of its own is left behind it", chosen("word aa worth 1;word bc worth 1;word cd worth 1;", 0), 1);
        Due.is("10 twice: itself is behind it", chosen("word aa worth 1 times 2;word bc worth 1;word cd worth 1;", 0), 0);
        Due.is("10 once: fewest behind", chosen("word bc worth 1;word cd worth 1;word aa worth 1;word dd worth 1 times 2;", 1), 2);
        Due.is("10 twice: one behind", chosen("word bc worth 1;word cd worth 1;word aa worth 1 times 2;word dd worth 1 times 2;", 1), 0);
        LastLetter x = Due.told("word aa worth 1 times 2;word bc worth 1;word cd worth 1;");
        x.say(0);
        x.silence();
        x.talk(1, 0);
        Due.is("10 twice, of which one was said", x.about(3), 1);
    }

    private static void wayByWhatIsLeft() {
        LastLetter x = Due.told("word aa worth 1 times 3;word ab worth 1 times 2;word ba worth 1 times 3;");
        int[] due = {0, 0, 1, 2, 0};
        for (int word : due) {
            x.talk(1, 4);
            Due.is("10 left most often", x.about(3), word);
        }
    }

    /** w 1, then 1103527590, -1764695586, 524991503 .. by the document's rule. */
    private static void wayByDraw() {
        LastLetter x = Due.told(ninefold(24));
        int w = 1;
        for (int i = 0; i < 40; i++) {
            int may = x.may();
            w = w * 1103515245 + 12345;
            int ahead = (w >>> 16) % Integer.bitCount(may);
            for (int j = 0; j < ahead; j++) {
                may &= may - 1;
            }
            Due.is("10 one by draw", x.talk(1, 3), 1);
            Due.is("10 drawn", x.about(3), Integer.numberOfTrailingZeros(may));
            Due.is("10 w", x.about(7), w);
        }
        LastLetter y = Due.told(ninefold(24));
        Due.is("10 forty by draw at once", y.talk(40, 3), 40);
        Due.is("10 a draw for each", y.about(7), w);
        Due.is("10 the same one", y.about(3), x.about(3));
    }

    private static void drawWraps() {
        int[] seeds = {Integer.MIN_VALUE, -1, 0, 1, 2, 65535, 65536, Integer.MAX_VALUE};
        for (int seed : seeds) {
            LastLetter x = Due.told(Due.loops(7));
            x.seed(seed);
            x.talk(1, 3);
            int low = (int) (seed * 1103515245L + 12345L);
            Due.is("10 w wraps behind " + seed, x.about(7), low);
            Due.is("10 no sign behind " + seed, x.about(3), (low & 0xFFFFFFFFL) / 65536 % 7);
        }
    }

    private static void drawOfNoneIsNoDraw() {
        LastLetter x = Due.told("word ab worth 1;");
        x.talk(0, 3);
        Due.is("10 none is said, none is drawn", x.about(7), 1);
        Due.is("10 one of one", x.talk(2, 3), 1);
        Due.is("10 one draw", x.about(7), 1103527590);
        Due.is("10 none may be said", x.talk(100, 3), 0);
        Due.is("10 no draw", x.about(7), 1103527590);
    }

    private static void wordOfNoneSuch() {
        LastLetter x = Due.told(FOUR);
        for (int word : NEVER) {
            Due.is("11 word(" + word + ", 0)", x.word(word, 0), NONE);
            Due.is("11 word(" + word + ", 1)", x.word(word, 1), NONE);
        }
        Due.is("11 the last one", x.word(3, 0), 0);
        Due.is("11 the first that is none", x.word(4, 0), NONE);
        int[] other = {-1, 2, 3, Integer.MIN_VALUE, Integer.MAX_VALUE};
        for (int what : other) {
            Due.is("11 what " + what, x.word(0, what), NONE);
        }
        Due.is("11 without words", new LastLetter().word(0, 0), NONE);
    }

    private static void wordWhenUsedUp() {
        LastLetter x = Due.told("word aa worth 1 times 9;");
        for (int i = 0; i < 9; i++) {
            Due.is("11 said", x.word(0, 0), i);
            Due.is("11 may be still", x.word(0, 1), 9 - i);
            x.say(0);
        }
        Due.is("11 said nine times", x.word(0, 0), 9);
        Due.is("11 may not be", x.word(0, 1), 0);
        x.say(0);
        Due.is("11 not below 0", x.word(0, 1), 0);
    }

    private static void doneInOrderOnly() {
        Due.is("26 without words", new LastLetter().done(), 0);
        LastLetter x = Due.told("word a worth 1 times 9;word aa worth 1 times 9;word aaa worth 1 times 9;errand aa;errand a after aa;errand aaa after a;");
        Due.is("26 none at first", x.done(), 0);
        int[] said = {2, 0, 1, 2, 0, 0, 2, 1};
        int[] due = {0, 0, 1, 1, 3, 3, 7, 7};
        for (int i = 0; i < said.length; i++) {
            x.say(said[i]);
            Due.is("26 behind " + (i + 1), x.done(), due[i]);
        }
        LastLetter y = Due.told(FOUR);
        y.say(2);
        Due.is("26 said too early", y.done(), 0);
        y.say(1);
        Due.is("26 bc", y.done(), 1);
        Due.is("26 cb is used up", y.say(2), NONE);
        Due.is("26 a refused word does nothing", y.done(), 1);
    }

    private static void doneOfSix() {
        LastLetter x = Due.told(Due.loops(7) + "errand aga;errand afa after aga;errand aea after afa;errand ada after aea;"
                + "errand aca after ada;errand aba after aca;");
        for (int i = 0; i < 6; i++) {
            x.say(6 - i);
            Due.is("26 of six", x.done(), (2 << i) - 1);
        }
    }

    private static void doneInWhateverTalk() {
        LastLetter x = Due.told(FOUR);
        x.say(1);
        x.silence();
        x.say(0);
        Due.is("26 no errand", x.done(), 1);
        x.silence();
        x.say(2);
        Due.is("26 after one done in another talk", x.done(), 3);
        x.silence();
        Due.is("26 silence leaves it", x.done(), 3);
    }

    private static void seedOfAnyNumber() {
        LastLetter x = new LastLetter();
        int[] seeds = {0, -1, Integer.MIN_VALUE, Integer.MAX_VALUE, 1};
        int before = 1;
        for (int seed : seeds) {
            Due.is("34 what it was", x.seed(seed), before);
            Due.is("34 what it is", x.about(7), seed);
            before = seed;
        }
        x.seed(9);
        x.tongue();
        Due.is("34 a tongue leaves it", x.about(7), 9);
    }

    private static void imageOfNoBox() {
        LastLetter x = Due.told(FOUR);
        x.say(0);
        x.image(2);
        x.say(1);
        View before = View.of(x);
        int[] none = {-1, 3, 4, Integer.MIN_VALUE, Integer.MAX_VALUE};
        for (int box : none) {
            Due.is("35 image(" + box + ")", x.image(box), NONE);
            Due.is("36 back(" + box + ")", x.back(box), NONE);
        }
        before.stays("35 no box", x);
        Due.is("36 box 0 is empty still", x.back(0), NONE);
        Due.is("36 box 2 is as it was", x.back(2), 1);
    }

    private static void imageAnewInTheSameBox() {
        LastLetter x = Due.told(FOUR);
        for (int box = 0; box < 3; box++) {
            Due.is("35 nothing said, box " + box, x.image(box), 0);
        }
        x.say(0);
        Due.is("35 one", x.image(1), 1);
        x.say(1);
        Due.is("35 two, over the one", x.image(1), 2);
        View before = View.of(x);
        x.image(1);
        before.stays("35 an image changes nothing", x);
        x.silence();
        Due.is("36 the later one", x.back(1), 2);
        Due.is("36 others as they were", x.back(0), 0);
        Due.is("36 others as they were", x.back(2), 0);
        Due.is("35 without words", new LastLetter().image(0), 0);
    }

    private static void backOfNothing() {
        LastLetter x = Due.told(FOUR);
        x.image(0);
        x.say(1);
        x.seed(5);
        View before = View.of(x);
        Due.is("36 nothing in box 1", x.back(1), NONE);
        Due.is("36 nothing in box 2", x.back(2), NONE);
        before.stays("36 nothing kept", x);
        Due.is("36 a new object's box", new LastLetter().back(0), NONE);
    }

    private static void backAsItWasKept() {
        LastLetter x = Due.told(FOUR);
        x.say(1);
        x.silence();
        x.say(0);
        x.seed(Integer.MIN_VALUE);
        View before = View.of(x);
        x.image(0);
        x.talk(2, 3);
        x.silence();
        x.say(3);
        Due.is("36 one was said", x.back(0), 1);
        before.stays("36 all is as it was", x);
        x.say(1);
        x.say(2);
        Due.is("36 a second time", x.back(0), 1);
        before.stays("36 all is as it was again", x);
        Due.is("36 it goes on from there", x.say(1), 2);
        Due.is("36 as often as was left", x.word(1, 1), 0);
    }

    private static void backLeavesTheRest() {
        LastLetter x = Due.told(FOUR);
        x.image(0);
        x.hear(0, 0, 0);
        x.later(8);
        x.longest();
        x.feed(0, 0, 0, 0, 0);
        x.say(0);
        Due.is("36 back", x.back(0), 0);
        Due.is("36 sounds stay", x.about(4), 1);
        Due.is("36 the time stays", x.about(5), 8);
        Due.is("36 the tape stays", x.about(6), 20);
        Due.is("36 the row stays", x.about(8), 3);
    }

    private static void aboutOfAnotherWhat() {
        LastLetter x = Due.told(FOUR);
        int[] other = {-1, -2, 10, 11, Integer.MIN_VALUE, Integer.MAX_VALUE};
        for (int what : other) {
            Due.is("37 about(" + what + ")", x.about(what), NONE);
        }
        x.seed(NONE);
        Due.is("37 w may be that, too", x.about(7), NONE);
    }

    private static void aboutTheLatest() {
        LastLetter x = Due.told(FOUR);
        Due.is("37 none at first", x.about(3), NONE);
        x.image(0);
        x.say(0);
        Due.is("37 word 0", x.about(3), 0);
        x.say(2);
        Due.is("37 a refused one is not the latest", x.about(3), 0);
        x.silence();
        Due.is("37 none behind silence", x.about(3), NONE);
        x.say(3);
        x.back(0);
        Due.is("37 none, as it was kept", x.about(3), NONE);
    }

    private static void aboutTheWorthOfAll() {
        LastLetter x = Due.told(FOUR);
        x.say(0);
        x.silence();
        x.image(0);
        x.say(2);
        Due.is("37 of all talks", x.about(9), 8);
        x.back(0);
        Due.is("37 as it was kept", x.about(9), 3);
        Due.tell(x, FOUR);
        Due.is("37 since the tongue was told", x.about(9), 0);
        LastLetter y = Due.told(Due.loops(24).replaceAll("worth [0-9]+", "worth 99 times 9"));
        y.talk(100, 0);
        y.talk(100, 1);
        y.talk(100, 2);
        Due.is("37 24 words, nine times, worth 99", y.about(9), 24 * 9 * 99);
    }

    private static void the512thCall() {
        LastLetter x = Due.told("word aa worth 7 times 9;");
        // about, feed twice, end and tongue were five of them.
        for (int calls = 5; calls < 511; calls++) {
            x.later(0);
        }
        Due.is("the 512th call", x.say(0), 7);
    }
}
