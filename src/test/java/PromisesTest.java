/** At least one test for each promise, with answers worked out by hand from the document. */
public final class PromisesTest {
    private static final int NONE = LastLetter.NONE;

    /** 0 amos (a-s), 1 sam (s-m) twice, 2 mos (m-s). */
    private static final String THREE = "word amos worth 3;word sam worth 2 times 2;word mos worth 5;law one;";

    private PromisesTest() {
    }

    public static void main(String[] args) {
        p1NewObject();
        p2Feed();
        p3End();
        p4Tongue();
        p5Fault();
        p5FaultPlaces();
        p5FaultOfManyLines();
        p6Follow();
        p7May();
        p8Say();
        p9Silence();
        p10Talk();
        p10TalkWays();
        p11Word();
        p12All();
        p13Longest();
        p14Worthy();
        p15Parted();
        p16Missed();
        p17Lies();
        p18Surplus();
        p19Mended();
        p20Join();
        p21Telling();
        p22to25Games();
        p26Done();
        p27Again();
        p28Dead();
        p29Hear();
        p30Untell();
        p31Later();
        p32Fits();
        p33Can();
        p34Seed();
        p35and36Boxes();
        p37About();
        spentWithFifteenWords();
        Due.finish();
    }

    private static void p1NewObject() {
        LastLetter x = new LastLetter();
        int[] due = {0, 0, 0, NONE, 0, 0, 0, 1, 0, 0};
        for (int what = 0; what < due.length; what++) {
            Due.is("1 new about(" + what + ")", x.about(what), due[what]);
        }
        Due.is("1 may", x.may(), 0);
        Due.is("1 say", x.say(0), NONE);
        Due.is("1 follow", x.follow(0), NONE);
        Due.is("1 fault", x.fault(0), 0);
        Due.is("1 fault place", x.fault(1), NONE);
        Due.is("1 done", x.done(), 0);
        Due.is("1 dead", x.dead(), 0);
        Due.is("1 join", x.join(0, 0), NONE);
        Due.is("1 wins", x.wins(0), NONE);
        Due.is("1 surplus", x.surplus(3), 0);
        Due.is("1 word", x.word(0, 0), NONE);
        Due.is("1 empty tongue", x.tongue(), 0);
    }

    private static void p2Feed() {
        LastLetter x = new LastLetter();
        for (int i = 1; i <= 80; i++) {
            Due.is("2 feed", x.feed(0, 1, 2, 3, 4), 20 * i);
        }
        Due.is("2 feed above", x.feed(0, 0, 0, 0, 0), NONE);
        Due.is("2 bytes", x.about(6), 1600);
        Due.is("2 end", x.end(1581), 1581);
        Due.is("2 feed to 1601", x.feed(0, 0, 0, 0, 0), NONE);
        Due.is("2 bytes stay", x.about(6), 1581);
        Due.is("2 end", x.end(1580), 1580);
        Due.is("2 feed to 1600", x.feed(0, 0, 0, 0, 0), 1600);

        LastLetter y = new LastLetter();
        y.feed(0x6C617720, 0x6F6E653B, 0x20202020, 0x0A0A0A0A, 0x2020203B);
        Due.is("2 highest first", y.tongue(), NONE);
        Due.is("2 fault", y.fault(0), 2);
        Due.is("2 place", y.fault(1), 19);
        LastLetter z = new LastLetter();
        z.feed(0x6C617720, 0x6F6E653B, 0x20202020, 0x20202020, 0x202020FF);
        z.tongue();
        Due.is("2 byte 255 is no token", z.fault(0), 1);
        Due.is("2 its place", z.fault(1), 19);
    }

    private static void p3End() {
        LastLetter x = new LastLetter();
        Due.is("3 end(0)", x.end(0), 0);
        Due.is("3 end(1)", x.end(1), NONE);
        x.feed(0, 0, 0, 0, 0);
        Due.is("3 end(-1)", x.end(-1), NONE);
        Due.is("3 end(21)", x.end(21), NONE);
        Due.is("3 stays", x.about(6), 20);
        Due.is("3 end(20)", x.end(20), 20);
        Due.is("3 end(7)", x.end(7), 7);
        Due.is("3 end(8)", x.end(8), NONE);
        Due.is("3 bytes", x.about(6), 7);
    }

    private static void p4Tongue() {
        LastLetter x = Due.told(THREE + "errand sam;");
        x.seed(77);
        x.later(5);
        x.hear(0, 0, 0);
        x.image(0);
        x.say(0);
        x.say(1);
        x.longest();
        Due.feed(x, "word;");
        Due.is("4 fault", x.tongue(), NONE);
        int[] due = {3, 1, 2, 1, 1, 5, 5, 77, 3, 5};
        for (int what = 0; what < due.length; what++) {
            Due.is("4 all stays: about(" + what + ")", x.about(what), due[what]);
        }
        Due.is("4 box stays", x.back(0), 0);
        Due.is("4 end", x.end(0), 0);
        x.say(1);
        x.image(1);
        Due.is("4 told", Due.tell(x, "word ab worth 1;"), 1);
        int[] fresh = {1, 0, 0, NONE, 0, 5, 0, 77, 0, 0};
        for (int what = 0; what < fresh.length; what++) {
            Due.is("4 anew: about(" + what + ")", x.about(what), fresh[what]);
        }
        Due.is("4 boxes empty", x.back(1), NONE);
        Due.is("4 may", x.may(), 1);
        Due.is("4 done", x.done(), 0);
        Due.is("4 said", x.word(0, 0), 0);
        Due.is("4 the empty text", x.tongue(), 0);
        Due.is("4 no words", x.about(0), 0);

        StringBuilder text = new StringBuilder();
        for (int i = 0; i < 24; i++) {
            text.append("word ").append((char) ('a' + i)).append(" worth 1;");
        }
        Due.is("4 24 words", Due.tell(x, text.toString()), 24);
        Due.is("4 blanks part or not", Due.tell(x, "word\nword\nworth5;\n\nword worth worth99times9;law other;"), NONE);
        Due.is("4 but not a letter behind N", x.fault(1), 35);
        x.end(0);
        Due.is("4 any word is a name", Due.tell(x, "\nword\nword\nworth5;word worth worth 0099 times9;law other;"), 2);
        Due.is("4 names of eight letters", Due.tell(x, "word abcdefgh worth 1;"), 1);
    }

    private static void fault(String text, int number, int place) {
        LastLetter x = new LastLetter();
        Due.is("5 tongue of '" + text + "'", Due.tell(x, text), number == 0 ? x.about(0) : NONE);
        Due.is("5 fault of '" + text + "'", x.fault(0), number);
        Due.is("5 place of '" + text + "'", x.fault(1), place);
    }

    private static void p5Fault() {
        LastLetter x = new LastLetter();
        Due.tell(x, "law law;");
        Due.is("5 number", x.fault(0), 2);
        Due.is("5 place", x.fault(1), 4);
        Due.is("5 fault(2)", x.fault(2), NONE);
        Due.is("5 fault(-1)", x.fault(-1), NONE);
        x.end(0);
        x.tongue();
        Due.is("5 number anew", x.fault(0), 0);
        Due.is("5 place anew", x.fault(1), NONE);
    }

    private static void p5FaultPlaces() {
        fault("", 0, NONE);
        fault(" \n ", 0, NONE);
        fault("word", 2, 4);
        fault("word ", 2, 5);
        fault("word a worth 1", 2, 14);
        fault("word a worth 1 times", 2, 20);
        fault("Word a worth 1;", 1, 0);
        fault("word a\tworth 1;", 1, 6);
        fault("word a, worth 1;", 1, 6);
        fault("word abcdefghi worth 1;", 1, 5);
        fault("word a worth 12345;", 1, 13);
        fault("word a worth 1x;", 1, 13);
        fault("word a worth 1times 2;", 1, 13);
        fault("word a worth 100x;", 1, 13);
        fault("word a worth -1;", 1, 13);
        fault(";", 2, 0);
        fault("12;", 2, 0);
        fault("words a worth 1;", 2, 0);
        fault("word 1 worth 1;", 2, 5);
        fault("word a word 1;", 2, 7);
        fault("word a worth b;", 2, 13);
        fault("word a worth ;", 2, 13);
        fault("word a worth 1 times 2 times 2;", 2, 23);
        fault("word a worth 1 time 2;", 2, 15);
        fault("word a worth 1 2;", 2, 15);
        fault("law three;", 2, 4);
        fault("law one two;", 2, 8);
        fault("law one;law one;", 2, 8);
        fault("law other; law;", 2, 11);
        fault("alike a bc;", 2, 8);
        fault("alike ab cd;", 2, 6);
        fault("alike a;", 2, 7);
        fault("alike a b c;", 2, 10);
        fault("alike a a;", 3, 8);
        fault("alike a b;alike b a;alike a b;", 0, NONE);
        fault("word a worth 1;word a worth 1;", 3, 20);
        fault("word a worth 1;word ab worth 1;word ba worth 1;", 0, NONE);
        fault("word a worth 100;", 4, 13);
        fault("word a worth 9999;", 4, 13);
        fault("word a worth 99 times 0;", 4, 22);
        fault("word a worth 99 times 10;", 4, 22);
        fault("word a worth 0 times 9;", 0, NONE);
        fault("errand a;", 5, 7);
        fault("errand a;word a worth 1;", 5, 7);
        fault("errand 1;", 2, 7);
        fault("word a worth 1;errand a;errand a;", 3, 31);
        fault("word a worth 1;errand a after a;", 5, 30);
        fault("word a worth 1;word b worth 1;errand a after b;", 5, 45);
        fault("word a worth 1;word b worth 1;errand b;errand a after c;", 5, 54);
        fault("word a worth 1;word b worth 1;errand b;errand a after b;", 0, NONE);
        fault("word a worth 1;errand a after;", 2, 29);
        fault("word a worth 1;errand a before a;", 2, 24);
    }

    private static void p5FaultOfManyLines() {
        StringBuilder words = new StringBuilder();
        for (int i = 0; i < 25; i++) {
            words.append("word ").append((char) ('a' + i)).append(" worth 1;");
        }
        fault(words.toString(), 2, 24 * 15);
        fault(words.substring(0, 24 * 15) + "\nword a", 2, 24 * 15 + 1);
        fault("alike a b;".repeat(10), 0, NONE);
        fault("alike a b;".repeat(10) + "alike a a;", 2, 100);
        String six = "errand a;errand b;errand c;errand d;errand e;errand f;";
        fault(words.substring(0, 105) + six, 0, NONE);
        fault(words.substring(0, 105) + six + " errand zz;", 2, 105 + 54 + 1);
    }

    private static void p6Follow() {
        LastLetter x = Due.told(THREE);
        Due.is("6 follow(0)", x.follow(0), 2);
        Due.is("6 follow(1)", x.follow(1), 4);
        Due.is("6 follow(2)", x.follow(2), 2);
        Due.is("6 follow(3)", x.follow(3), NONE);
        Due.is("6 follow(-1)", x.follow(-1), NONE);

        LastLetter y = Due.told("alike s z;word as worth 1;word za worth 1;word xa worth 1;alike a b;alike x b;");
        Due.is("6 alike follow(0)", y.follow(0), 2);
        Due.is("6 alike through b", y.follow(1), 0b101);
        Due.is("6 alike itself", y.follow(2), 0b101);

        LastLetter z = Due.told("law two;word abcd worth 1;word cda worth 1;word d worth 1;word da worth 1;word aa worth 1;word dca worth 1;");
        Due.is("6 two: abcd", z.follow(0), 0b000010);
        Due.is("6 two: cda", z.follow(1), 0b001000);
        Due.is("6 two: d", z.follow(2), 0);
        Due.is("6 two: da itself", z.follow(3), 0b001000);
        Due.is("6 two: aa itself", z.follow(4), 0b010000);
        LastLetter t = Due.told("law two;alike c e;word xec worth 1;word cer worth 1;");
        Due.is("6 two by sound", t.follow(0), 2);

        LastLetter o = Due.told("law other;word ab worth 1;word ba worth 1;word a worth 1;");
        Due.is("6 other: ab", o.follow(0), 0b101);
        Due.is("6 other: ba", o.follow(1), 0b010);
        Due.is("6 other: a", o.follow(2), 0b010);
    }

    private static void p7May() {
        LastLetter x = Due.told(THREE);
        Due.is("7 any first", x.may(), 7);
        x.say(1);
        Due.is("7 behind sam", x.may(), 4);
        x.say(2);
        Due.is("7 sam twice", x.may(), 2);
        x.say(1);
        Due.is("7 mos but once", x.may(), 0);
        x.silence();
        Due.is("7 what is left", x.may(), 1);
        LastLetter y = Due.told("word aa worth 1 times 3;");
        y.say(0);
        Due.is("7 itself", y.may(), 1);
        y.say(0);
        y.say(0);
        Due.is("7 no more", y.may(), 0);
    }

    private static void p8Say() {
        LastLetter x = Due.told(THREE);
        Due.is("8 none such", x.say(3), NONE);
        Due.is("8 none such", x.say(-1), NONE);
        Due.is("8 none such by 32", x.say(32), NONE);
        Due.is("8 sam", x.say(1), 2);
        Due.is("8 may not follow", x.say(0), NONE);
        Due.is("8 may not follow itself", x.say(1), NONE);
        Due.is("8 nothing done", x.about(2), 1);
        Due.is("8 mos", x.say(2), 5);
        Due.is("8 sam", x.say(1), 2);
        Due.is("8 mos is used up", x.say(2), NONE);
        Due.is("8 worth", x.about(9), 9);
        Due.is("8 latest", x.about(3), 1);
        Due.is("8 worth 0 is no NONE", Due.told("word a worth 0;").say(0), 0);
    }

    private static void p9Silence() {
        LastLetter x = Due.told(THREE);
        Due.is("9 none", x.silence(), 0);
        x.say(0);
        x.say(1);
        Due.is("9 two", x.silence(), 2);
        Due.is("9 again", x.silence(), 0);
        Due.is("9 latest", x.about(3), NONE);
        Due.is("9 worth counts on", x.about(9), 5);
        Due.is("9 said counts on", x.word(1, 0), 1);
        Due.is("9 may", x.may(), 6);
    }

    private static void p10Talk() {
        LastLetter x = Due.told(THREE);
        Due.is("10 words -1", x.talk(-1, 0), NONE);
        Due.is("10 words 101", x.talk(101, 0), NONE);
        Due.is("10 way -1", x.talk(1, -1), NONE);
        Due.is("10 way 5", x.talk(1, 5), NONE);
        Due.is("10 nothing done", x.about(2), 0);
        Due.is("10 none", x.talk(0, 3), 0);
        Due.is("10 no draw", x.about(7), 1);
        Due.is("10 till none may be", x.talk(100, 0), 4);
        Due.is("10 words said", x.about(2), 4);
        Due.is("10 worth", x.about(9), 12);
        Due.is("10 none may be", x.talk(5, 3), 0);
        Due.is("10 no draw of none", x.about(7), 1);
        LastLetter y = Due.told("word aa worth 1 times 9;word ab worth 1 times 9;word ba worth 1 times 9;");
        Due.is("10 so many", y.talk(5, 4), 5);
        Due.is("10 goes on", y.talk(3, 4), 3);
        Due.is("10 in one talk", y.about(2), 8);
    }

    private static void p10TalkWays() {
        String text = "word ba worth 1;word ab worth 7;word ac worth 7 times 3;word aa worth 2 times 2;word bb worth 3;";
        Due.is("10 the first of most behind", afterOne(text, 0), 0);
        Due.is("10 fewest behind", afterOne(text, 1), 2);
        Due.is("10 most worth", afterOne(text, 2), 1);
        Due.is("10 left most often", afterOne(text, 4), 2);
        // 'aa' once: behind it none of its own number is left.
        String own = "word aa worth 1;word ba worth 1;word ab worth 1;";
        Due.is("10 its own number left", afterOne(own, 0), 1);
        Due.is("10 its own number left, told twice", afterOne("word aa worth 1 times 2;word ba worth 1;word ab worth 1;", 0), 0);
        // w 1 -> 1103527590, >>> 16 is 16838, modulo 5 is 3.
        Due.is("10 by draw", afterOne(text, 3), 3);
        LastLetter x = Due.told("word a worth 1;");
        x.talk(1, 3);
        Due.is("10 a draw of one is a draw", x.about(7), 1103527590);
        LastLetter y = Due.told("word a worth 1;word b worth 1;word c worth 1;");
        y.seed(-1);
        y.talk(1, 3);
        Due.is("10 wrapping", y.about(7), -1 * 1103515245 + 12345);
        Due.is("10 no sign", y.about(3), ((-1 * 1103515245 + 12345) >>> 16) % 3);
    }

    private static int afterOne(String text, int way) {
        LastLetter x = Due.told(text);
        Due.is("10 talk one by way " + way, x.talk(1, way), 1);
        return x.about(3);
    }

    private static void p11Word() {
        LastLetter x = Due.told(THREE);
        Due.is("11 said", x.word(1, 0), 0);
        Due.is("11 still", x.word(1, 1), 2);
        x.say(1);
        Due.is("11 said", x.word(1, 0), 1);
        Due.is("11 still", x.word(1, 1), 1);
        Due.is("11 one if not told", x.word(0, 1), 1);
        Due.is("11 what 2", x.word(0, 2), NONE);
        Due.is("11 what -1", x.word(0, -1), NONE);
        Due.is("11 none such", x.word(3, 0), NONE);
        Due.is("11 none such", x.word(-1, 1), NONE);
    }

    private static void p12All() {
        LastLetter x = Due.told(THREE);
        Due.is("12 all", x.all(false), 1);
        Due.lies("12 all", x, 0, 1, 2);
        Due.is("12 round", x.all(true), 0);
        Due.lies("12 no round", x);
        LastLetter y = Due.told("word ab worth 1;word ca worth 1;word ac worth 1;word ba worth 1;");
        Due.is("12 round", y.all(true), 1);
        Due.lies("12 first round", y, 0, 3, 2, 1);
        Due.is("12 all", y.all(false), 1);
        Due.lies("12 first all", y, 0, 3, 2, 1);
        LastLetter one = Due.told("word ab worth 1;");
        Due.is("12 one alone", one.all(false), 1);
        Due.lies("12 one alone", one, 0);
        Due.is("12 one not round", one.all(true), 0);
        Due.is("12 one round", Due.told("word aba worth 1;").all(true), 1);
        LastLetter none = new LastLetter();
        Due.is("12 empty", none.all(true), 1);
        Due.lies("12 empty", none);
        Due.is("12 not all", Due.told("word ab worth 1;word cd worth 1;").all(false), 0);
    }

    private static void p13Longest() {
        LastLetter x = Due.told("word zy worth 9;word bc worth 1;word ab worth 1;word cb worth 1;word cd worth 1;");
        Due.is("13 longest", x.longest(), 3);
        Due.lies("13 the first of three", x, 2, 1, 3);
        LastLetter y = Due.told("word ab worth 1;word cd worth 1;");
        Due.is("13 one", y.longest(), 1);
        Due.lies("13 one", y, 0);
        LastLetter z = Due.told("word aa worth 1 times 9;");
        Due.is("13 none twice", z.longest(), 1);
    }

    private static void p14Worthy() {
        LastLetter x = Due.told("word zy worth 9;word bc worth 1;word ab worth 1;word cb worth 1;word cd worth 1;");
        Due.is("14 one of most worth", x.worthy(), 9);
        Due.lies("14 one of most worth", x, 0);
        LastLetter y = Due.told("word bc worth 5;word cd worth 0;word ab worth 0;");
        Due.is("14 worth 5", y.worthy(), 5);
        Due.lies("14 ahead of longer ones", y, 0);
        LastLetter z = Due.told("word ab worth 0;word bc worth 5;word cd worth 0;");
        Due.is("14 worth 5", z.worthy(), 5);
        Due.lies("14 by the first number", z, 0, 1);
        LastLetter zero = Due.told("word ab worth 0;word bc worth 0;");
        Due.is("14 worth 0", zero.worthy(), 0);
        Due.lies("14 one word at least", zero, 0);
    }

    private static void p15Parted() {
        LastLetter x = Due.told("word bc worth 1;word ab worth 1;word xy worth 1;word cb worth 1;word cd worth 1;");
        Due.is("15 three rows", x.parted(), 3);
        Due.lies("15 first of all", x, 1, 0, 3, 2, 4);
        LastLetter one = Due.told("word ab worth 1;");
        Due.is("15 one", one.parted(), 1);
        Due.lies("15 one", one, 0);
        Due.is("15 as all", Due.told(THREE).parted(), 1);
        Due.is("15 none", new LastLetter().parted(), 0);
    }

    private static void p16Missed() {
        LastLetter x = Due.told(THREE + "word zz worth 1;");
        x.longest();
        Due.is("16 amos", x.missed(0), 1);
        Due.lies("16 nothing lies there", x);
        Due.is("16 sam", x.missed(1), 2);
        Due.is("16 zz", x.missed(3), 0);
        Due.is("16 none such", x.missed(4), NONE);
        Due.is("16 none such", x.missed(-1), NONE);
        Due.is("16 alone", Due.told("word a worth 1;").missed(0), 1);
    }

    private static void p17Lies() {
        LastLetter x = Due.told(THREE);
        Due.lies("17 at first", x);
        x.all(false);
        Due.is("17 last", x.lies(2), 2);
        Due.is("17 behind", x.lies(3), NONE);
        Due.is("17 far", x.lies(Integer.MAX_VALUE), NONE);
        Due.is("17 below", x.lies(Integer.MIN_VALUE), NONE);
        x.talk(2, 0);
        x.silence();
        x.game(0);
        x.fits(3, 0);
        Due.lies("17 stays", x, 0, 1, 2);
    }

    private static void p18Surplus() {
        LastLetter x = Due.told("law two;word ab worth 1;word ac worth 1 times 5;word ba worth 1;word dd worth 1;alike c e;");
        Due.is("18 a", x.surplus(0), 1);
        Due.is("18 b", x.surplus(1), 0);
        Due.is("18 c", x.surplus(2), -1);
        Due.is("18 e sounds as c", x.surplus(4), -1);
        Due.is("18 d", x.surplus(3), 0);
        Due.is("18 z", x.surplus(25), 0);
        Due.is("18 none such", x.surplus(26), -1000);
        Due.is("18 none such", x.surplus(-1), -1000);
    }

    private static void p19Mended() {
        mended("", 0);
        mended("word ab worth 1;", 0);
        mended("word ab worth 1;word acb worth 1;", 1);
        mended("word ab worth 1;word acb worth 1;word adb worth 1;", 2);
        mended("word ab worth 1;word acb worth 1;word ba worth 1;", 0);
        mended("word aa worth 1;word bb worth 1;", 1);
        mended("word aa worth 1;word bb worth 1;alike a b;", 0);
        mended("word ab worth 1;word acb worth 1;word xx worth 1;word cd worth 1;", 3);
        mended("law other;word ab worth 1;word cd worth 1;", 1);
        mended("law two;word ab worth 1;word bc worth 1;", 0);
        mended("word ab worth 1;word cd worth 1;word ef worth 1;alike b c;alike d e;", 0);
    }

    private static void mended(String text, int due) {
        Due.is("19 mended of " + text, Due.told(text).mended(), due);
    }

    private static void p20Join() {
        LastLetter x = Due.told("word ab worth 1;word bx worth 1;word bc worth 1;word xd worth 1;word cd worth 1;word aa worth 1;");
        Due.is("20 three words", x.join(0, 4), 3);
        Due.lies("20 ab bc cd", x, 0, 2, 4);
        Due.is("20 none", x.join(4, 0), NONE);
        Due.lies("20 none", x);
        Due.is("20 one alone", x.join(3, 3), 1);
        Due.lies("20 one alone", x, 3);
        Due.is("20 none such", x.join(0, 6), NONE);
        Due.lies("20 none such", x);
        Due.is("20 none such", x.join(-1, 0), NONE);
        LastLetter y = Due.told("word ab worth 1;word bad worth 1;word bd worth 1;word dz worth 1;");
        Due.is("20 the first of like ones", y.join(0, 3), 3);
        Due.lies("20 the first of like ones", y, 0, 1, 3);
    }

    private static void p21Telling() {
        String circle = "word ab worth 1;word bc worth 1;word ca worth 1;";
        telling(circle, 0);
        telling(circle + "errand bc;", 1, 1);
        telling(circle + "errand ca;errand ab after ca;", 2, 2, 0);
        telling(circle + "errand ab;errand ca after ab;", 3, 0, 1, 2);
        telling(circle + "errand ca;errand bc after ca;errand ab after bc;", 5, 2, 0, 1, 2, 0);
        telling("word ab worth 1;word cd worth 1;errand ab;errand cd;", NONE);
        telling("word ab worth 1;word bab worth 1;word bb worth 1;word bd worth 1;errand ab;errand bd after ab;", 2, 0, 3);
        LastLetter x = Due.told(circle + "errand bc;");
        x.say(1);
        Due.is("21 what was said does not count", x.telling(), 1);
    }

    private static void telling(String text, int due, int... words) {
        LastLetter x = Due.told(text);
        x.longest();
        Due.is("21 telling of " + text, x.telling(), due);
        Due.lies("21 telling of " + text, x, words);
    }

    private static void p22to25Games() {
        LastLetter x = Due.told("word ab worth 1;word bc worth 5;word bd worth 2;word da worth 9;");
        int[] game = {1, 0, 1, 0};
        int[] wins = {1, NONE, 3, NONE};
        int[] deep = {1, 0, 3, 2};
        int[] score = {5, 0, 13, -4};
        for (int word = 0; word < 4; word++) {
            Due.is("22 game(" + word + ")", x.game(word), game[word]);
            Due.is("23 wins(" + word + ")", x.wins(word), wins[word]);
            Due.is("24 deep(" + word + ")", x.deep(word), deep[word]);
            Due.is("25 score(" + word + ")", x.score(word), score[word]);
        }
        for (int word = -1; word <= 4; word += 5) {
            Due.is("22 none such", x.game(word), NONE);
            Due.is("23 none such", x.wins(word), NONE);
            Due.is("24 none such", x.deep(word), NONE);
            Due.is("25 none such", x.score(word), -10000);
        }
        // Behind ab both bc (cd, de) and bx win.
        LastLetter y = Due.told("word ab worth 1;word bc worth 1;word cd worth 1;word de worth 1;word bx worth 1;");
        Due.is("23 the least word that wins", y.wins(0), 1);
        Due.is("24 fewest by who wins", y.deep(0), 1);
        // Behind ab both bc (cx) and bd (de, ef, fx) lose.
        LastLetter l = Due.told("word ab worth 1;word bc worth 1;word cx worth 1;word bd worth 1;word de worth 1;"
                + "word ef worth 1;word fx worth 1;");
        Due.is("22 lost", l.game(0), 0);
        Due.is("24 most by who loses", l.deep(0), 4);
        LastLetter z = Due.told("word aa worth 4;");
        Due.is("22 not itself again", z.game(0), 0);
        Due.is("25 not itself again", z.score(0), 0);
    }

    private static void p26Done() {
        LastLetter x = Due.told("word ab worth 1;word bc worth 1 times 2;word ca worth 1;errand ca;errand bc after ca;");
        x.say(1);
        Due.is("26 bc too early", x.done(), 0);
        x.say(2);
        Due.is("26 ca", x.done(), 1);
        x.silence();
        Due.is("26 stays", x.done(), 1);
        x.say(1);
        Due.is("26 bc in another talk", x.done(), 3);
    }

    private static void p27Again() {
        LastLetter x = Due.told("word ab worth 1;word bc worth 1;word bd worth 1;word da worth 1;word xx worth 1;word xb worth 1;");
        int[] due = {1, 0, 1, 0, 2, 1};
        for (int word = 0; word < due.length; word++) {
            Due.is("27 again(" + word + ")", x.again(word), due[word]);
        }
        Due.is("27 none such", x.again(6), NONE);
        Due.is("27 none such", x.again(-1), NONE);
    }

    private static void p28Dead() {
        Due.is("28 dead", Due.told("word ab worth 1;word bc worth 1;word bd worth 1;word da worth 1;").dead(), 2);
        Due.is("28 itself is one", Due.told("word aa worth 1;").dead(), 0);
        LastLetter x = Due.told(THREE);
        x.talk(100, 0);
        Due.is("28 what was said does not count", x.dead(), 0);
    }

    private static void p29Hear() {
        LastLetter x = Due.told(THREE);
        int[][] bad = {{-1, 0, 0}, {12, 0, 0}, {0, -1, 0}, {0, 3, 0}, {0, 0, -1}, {0, 0, 3}, {0, 1, -1}, {0, 1, 26}, {0, 2, 26}};
        for (int[] b : bad) {
            Due.is("29 hear(" + b[0] + ", " + b[1] + ", " + b[2] + ")", x.hear(b[0], b[1], b[2]), NONE);
        }
        Due.is("29 nothing done", x.about(4), 0);
        for (int i = 0; i < 30; i++) {
            Due.is("29 its number", x.hear(i % 12, 1 + i % 2, 25), i);
        }
        Due.is("29 there are 30", x.hear(0, 0, 0), NONE);
        x.untell(0);
        Due.is("29 untold ones count", x.hear(0, 0, 0), NONE);
        Due.is("29 sounds", x.about(4), 30);
        Due.tell(x, THREE);
        Due.is("29 anew", x.hear(11, 0, 2), 0);
    }

    private static void p30Untell() {
        LastLetter x = Due.told(THREE);
        Due.isFalse("30 none such", x.untell(0));
        x.hear(0, 0, 0);
        Due.isFalse("30 none such", x.untell(1));
        Due.isFalse("30 none such", x.untell(-1));
        Due.isTrue("30 untold", x.untell(0));
        Due.isFalse("30 so already", x.untell(0));
        Due.is("30 at the same time", x.fits(1, 0), 3);
        x.hear(0, 0, 0);
        Due.tell(x, THREE);
        Due.isFalse("30 none such with the new tongue", x.untell(1));
    }

    private static void p31Later() {
        LastLetter x = new LastLetter();
        Due.is("31 later(0)", x.later(0), 0);
        Due.is("31 later(-1)", x.later(-1), NONE);
        Due.is("31 later(1001)", x.later(1001), NONE);
        for (int i = 1; i <= 99; i++) {
            Due.is("31 later(1000)", x.later(1000), 1000 * i);
        }
        Due.is("31 later(999)", x.later(999), 99999);
        Due.is("31 above", x.later(2), NONE);
        Due.is("31 stays", x.about(5), 99999);
        Due.is("31 to the brim", x.later(1), 100000);
        Due.is("31 above", x.later(1), NONE);
        Due.is("31 later(0)", x.later(0), 100000);
    }

    private static void p32Fits() {
        LastLetter x = Due.told("word ab worth 1;word ba worth 1;word aa worth 1;word eb worth 1;alike e a;");
        Due.is("32 n 0", x.fits(0, 0), NONE);
        Due.is("32 n 13", x.fits(13, 0), NONE);
        Due.is("32 one word", x.fits(1, 0), 4);
        // Behind ab, eb: ba; behind ba, aa: ab, aa, eb.
        Due.is("32 two words", x.fits(2, 0), 8);
        x.later(10);
        x.hear(1, 1, 4);
        x.later(10);
        x.hear(1, 2, 1);
        Due.is("32 known at 9", x.fits(2, 9), 8);
        Due.is("32 known at 10", x.fits(2, 10), 6);
        Due.is("32 known at 20", x.fits(2, 20), 4);
        Due.is("32 known far on", x.fits(2, Integer.MAX_VALUE), 4);
        Due.is("32 known long ago", x.fits(2, Integer.MIN_VALUE), 8);
        Due.is("32 only of the first n", x.fits(1, 20), 4);
        x.later(1);
        x.untell(0);
        Due.is("32 untold at 21", x.fits(2, 20), 4);
        x.hear(0, 0, 0);
        Due.is("32 by the word, known at 21", x.fits(2, 21), 0);

        StringBuilder text = new StringBuilder();
        for (int i = 0; i < 24; i++) {
            text.append("word a").append((char) ('a' + i)).append("a worth 1;");
        }
        LastLetter y = Due.told(text.toString());
        Due.is("32 24 to the 8th", y.fits(8, 0), 110075314176L);
        Due.is("32 counted up to", y.fits(9, 0), 1000000000000L);
        Due.is("32 counted up to", y.fits(12, 0), 1000000000000L);
    }

    private static void p33Can() {
        LastLetter x = Due.told(THREE);
        Due.is("33 n 0", x.can(0, 0, 0), NONE);
        Due.is("33 n 13", x.can(13, 0, 0), NONE);
        Due.is("33 place -1", x.can(2, -1, 0), NONE);
        Due.is("33 place n", x.can(2, 2, 0), NONE);
        Due.is("33 first", x.can(2, 0, 0), 7);
        Due.is("33 second", x.can(2, 1, 0), 6);
        x.hear(2, 0, 2);
        Due.is("33 ahead of mos", x.can(3, 1, 0), 2);
        Due.is("33 ahead of sam", x.can(3, 0, 0), 5);
        Due.is("33 behind mos", x.can(12, 3, 0), 2);
        Due.is("33 not of the first n", x.can(2, 1, 0), 6);
        Due.is("33 known before", x.can(3, 1, -1), 6);
        x.hear(0, 2, 12);
        Due.is("33 none fits", x.can(3, 1, 0), 0);
    }

    private static void p34Seed() {
        LastLetter x = new LastLetter();
        Due.is("34 at first", x.seed(-7), 1);
        Due.is("34 was", x.seed(5), -7);
        Due.is("34 w", x.about(7), 5);
    }

    private static void p35and36Boxes() {
        LastLetter x = Due.told(THREE + "errand amos;");
        Due.is("35 none such", x.image(3), NONE);
        Due.is("35 none such", x.image(-1), NONE);
        Due.is("36 none such", x.back(3), NONE);
        Due.is("36 none such", x.back(-1), NONE);
        Due.is("36 nothing kept", x.back(2), NONE);
        Due.is("35 none said", x.image(0), 0);
        x.say(0);
        x.say(1);
        x.seed(9);
        x.longest();
        Due.is("35 two said", x.image(2), 2);
        x.say(2);
        x.seed(10);
        x.later(4);
        Due.is("36 back", x.back(2), 2);
        Due.is("36 latest", x.about(3), 1);
        Due.is("36 worth", x.about(9), 5);
        Due.is("36 w", x.about(7), 9);
        Due.is("36 said", x.word(2, 0), 0);
        Due.is("36 done", x.done(), 1);
        Due.is("36 the time goes on", x.about(5), 4);
        Due.is("36 the row stays", x.about(8), 3);
        Due.is("36 back at first", x.back(0), 0);
        Due.is("36 done", x.done(), 0);
        Due.is("36 latest", x.about(3), NONE);
        Due.is("36 w", x.about(7), 1);
        Due.is("36 a box stays kept", x.back(2), 2);
        x.say(2);
        Due.is("36 and is not changed by what is said", x.back(2), 2);
        Due.is("36 may", x.may(), 4);
    }

    private static void p37About() {
        LastLetter x = Due.told(THREE + "errand amos;");
        x.say(0);
        x.say(1);
        x.hear(0, 0, 0);
        x.later(3);
        x.feed(0, 0, 0, 0, 0);
        x.seed(-5);
        x.join(0, 1);
        int[] due = {3, 1, 2, 1, 1, 3, 20, -5, 2, 5};
        for (int what = 0; what < due.length; what++) {
            Due.is("37 about(" + what + ")", x.about(what), due[what]);
        }
        Due.is("37 about(10)", x.about(10), NONE);
        Due.is("37 about(-1)", x.about(-1), NONE);
    }

    private static String manyWords(int many) {
        StringBuilder text = new StringBuilder();
        for (int i = 0; i < many; i++) {
            text.append("word a").append((char) ('a' + i)).append("a worth ").append(i).append(";");
        }
        return text.toString();
    }

    private static void spentWithFifteenWords() {
        LastLetter x = Due.told(manyWords(14));
        Due.is("14 words: all", x.all(false), 1);
        Due.is("14 words: round", x.all(true), 1);
        Due.is("14 words: row", x.lies(13), 13);
        Due.is("14 words: longest", x.longest(), 14);
        Due.is("14 words: worthy", x.worthy(), 91);
        Due.is("14 words: parted", x.parted(), 1);
        Due.is("14 words: missed", x.missed(13), 1);
        Due.is("14 words: game", x.game(0), 1);
        Due.is("14 words: deep", x.deep(0), 13);
        Due.is("14 words: wins", x.wins(0), 1);
        // Said from the greatest down by turns: 13 + 11 + .. + 1 less 12 + 10 + .. + 2.
        Due.is("14 words: score", x.score(0), 7);
        Due.tell(x, manyWords(15));
        boolean[] both = {false, true};
        for (boolean round : both) {
            x.join(0, 1);
            Due.is("15 words: all", x.all(round), -2);
            Due.lies("15 words: nothing lies there", x);
        }
        x.join(0, 1);
        Due.is("15 words: longest", x.longest(), -2);
        Due.lies("15 words: nothing lies there", x);
        Due.is("15 words: worthy", x.worthy(), -2);
        Due.is("15 words: parted", x.parted(), -2);
        Due.is("15 words: missed", x.missed(14), -2);
        Due.is("15 words: missed none such", x.missed(15), NONE);
        Due.is("15 words: game", x.game(14), -2);
        Due.is("15 words: game none such", x.game(15), NONE);
        Due.is("15 words: wins", x.wins(14), -2);
        Due.is("15 words: wins none such", x.wins(15), NONE);
        Due.is("15 words: deep", x.deep(14), -2);
        Due.is("15 words: deep none such", x.deep(15), NONE);
        Due.is("15 words: score", x.score(14), -20000);
        Due.is("15 words: score none such", x.score(15), -10000);
        Due.is("15 words: join", x.join(14, 3), 2);
        Due.is("15 words: again", x.again(14), 2);
        Due.is("15 words: mended", x.mended(), 0);
        Due.is("15 words: fits", x.fits(2, 0), 225);
    }
}
