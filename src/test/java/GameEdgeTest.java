/** The boundary cases of promises 22 to 25, 27 and 28: GAME, DEEP, SCORE, AGAIN, DEAD. */
public final class GameEdgeTest {
    private static final int NONE = LastLetter.NONE;
    private static final int SPENT = -2;
    private static final int[] NEVER = {Integer.MIN_VALUE, -33, -32, -1, 24, 25, 31, 32, 33, 64, Integer.MAX_VALUE};

    private GameEdgeTest() {
    }

    public static void main(String[] args) {
        ofNoneSuch();
        withoutWords();
        ofOneWord();
        chainOf14();
        loopsOf14();
        tonguesThatGrow();
        spentWith15And24();
        winsTheLeast();
        winsByNone();
        deepFewestAndMost();
        scoreFromLeastToMost();
        scoreIsNotTheGame();
        whatWasSaidCountsNot();
        againOfNoneSuch();
        againInAChainOf24();
        againInAChainToldFromItsEnd();
        againForEver();
        againOutOfARound();
        deadOfAllAndNone();
        deadByEachLaw();
        Due.finish();
    }

    private static void ofNoneSuch() {
        LastLetter x = Due.told(Due.chain(14));
        none(x, 14);
        for (int word : NEVER) {
            none(x, word);
        }
        Due.is("22 the last one", x.game(13), 0);
        Due.is("24 the last one", x.deep(13), 0);
    }

    private static void none(LastLetter x, int word) {
        Due.is("22 game(" + word + ")", x.game(word), NONE);
        Due.is("23 wins(" + word + ")", x.wins(word), NONE);
        Due.is("24 deep(" + word + ")", x.deep(word), NONE);
        Due.is("25 score(" + word + ")", x.score(word), -10000);
    }

    private static void withoutWords() {
        LastLetter x = new LastLetter();
        none(x, 0);
        Due.is("27 again", x.again(0), NONE);
        Due.is("28 dead", x.dead(), 0);
    }

    private static void ofOneWord() {
        String[] texts = {"word ab worth 9;", "word aa worth 9 times 9;"};
        for (String text : texts) {
            LastLetter x = Due.told(text);
            Due.is("22 none is left: " + text, x.game(0), 0);
            Due.is("23 none is left: " + text, x.wins(0), NONE);
            Due.is("24 none is left: " + text, x.deep(0), 0);
            Due.is("25 none is left: " + text, x.score(0), 0);
        }
    }

    private static void chainOf14() {
        LastLetter x = Due.told(Due.chain(14));
        for (int word = 0; word < 14; word++) {
            int rest = 13 - word;
            Due.is("22 chain, game(" + word + ")", x.game(word), rest % 2);
            Due.is("23 chain, wins(" + word + ")", x.wins(word), rest % 2 == 1 ? word + 1 : NONE);
            Due.is("24 chain, deep(" + word + ")", x.deep(word), rest);
            Due.is("25 chain, score(" + word + ")", x.score(word), rest % 2);
        }
    }

    private static void loopsOf14() {
        LastLetter x = Due.told(Due.loops(14));
        for (int word = 0; word < 14; word++) {
            Due.is("22 loops, game(" + word + ")", x.game(word), 1);
            Due.is("23 loops, wins(" + word + ")", x.wins(word), word == 0 ? 1 : 0);
            Due.is("24 loops, deep(" + word + ")", x.deep(word), 13);
        }
        // By turns from the greatest down: 13 - 12 + 11 - .. + 1.
        Due.is("25 loops, score(0)", x.score(0), 7);
        Due.is("25 loops, score(13)", x.score(13), 6);
        LastLetter y = Due.told(Due.loops(13));
        Due.is("22 of 13 who is to say loses", y.game(0), 0);
        Due.is("23 by none", y.wins(0), NONE);
        Due.is("24 all 12", y.deep(0), 12);
    }

    private static void tonguesThatGrow() {
        int[] counts = {1, 2, 12, 13, 14, 3, 14};
        LastLetter x = new LastLetter();
        for (int many : counts) {
            Due.tell(x, Due.chain(many));
            Due.is("12 all of " + many, x.all(false), 1);
            Due.is("12 round of " + many, x.all(true), 0);
            Due.is("14 worthy of " + many, x.worthy(), many);
            Due.is("22 game of " + many, x.game(0), (many - 1) % 2);
            Due.is("24 deep of " + many, x.deep(0), many - 1);
            Due.is("25 score of " + many, x.score(0), (many - 1) % 2);
        }
    }

    private static void spentWith15And24() {
        int[] counts = {15, 24};
        for (int many : counts) {
            LastLetter x = Due.told(Due.loops(many));
            for (int word = 0; word < many; word += many - 1) {
                Due.is("22 spent", x.game(word), SPENT);
                Due.is("23 spent", x.wins(word), SPENT);
                Due.is("24 spent", x.deep(word), SPENT);
                Due.is("25 spent", x.score(word), -20000);
                Due.is("27 again is not", x.again(word), 2);
            }
            none(x, many);
            none(x, -1);
            Due.is("28 dead is not", x.dead(), 0);
            Due.tell(x, Due.chain(14));
            Due.is("22 14 words then", x.game(0), 1);
        }
    }

    private static void winsTheLeast() {
        LastLetter x = Due.told("word bad worth 1;word dx worth 1;word by worth 1;word ab worth 1;word bz worth 1;");
        Due.is("23 by and bz win, bad does not", x.wins(3), 2);
        Due.is("22 so it is won", x.game(3), 1);
        Due.is("23 not a word that was said", Due.told("word aba worth 1;word aca worth 1;").wins(0), 1);
    }

    private static void winsByNone() {
        LastLetter x = Due.told("word ab worth 1;word bc worth 1;word cd worth 1;");
        Due.is("22 lost", x.game(0), 0);
        Due.is("23 by none", x.wins(0), NONE);
        Due.is("23 no word follows", x.wins(2), NONE);
        Due.is("23 word 0 is no NONE", Due.told("word ba worth 1;word ab worth 1;").wins(1), 0);
    }

    private static void deepFewestAndMost() {
        // Behind ab: bx ends it, bc cd de does so later.
        LastLetter x = Due.told("word ab worth 1;word bc worth 1;word cd worth 1;word de worth 1;word bx worth 1;");
        Due.is("24 who wins says so that they are fewest", x.deep(0), 1);
        // Behind ab: bc cx, or bd de ef fx, all lost.
        LastLetter y = Due.told("word ab worth 1;word bc worth 1;word cx worth 1;word bd worth 1;word de worth 1;word ef worth 1;word fx worth 1;");
        Due.is("24 who loses says so that they are most", y.deep(0), 4);
        // Behind ab: bx xy loses for who says bx, bc cd de wins.
        LastLetter z = Due.told("word ab worth 1;word bx worth 1;word xy worth 1;word bc worth 1;word cd worth 1;word de worth 1;");
        Due.is("23 only bc wins", z.wins(0), 3);
        Due.is("24 who wins may not lose to be brief", z.deep(0), 3);
        Due.is("24 none may follow", z.deep(2), 0);
    }

    private static String weighed(int even, int odd) {
        StringBuilder text = new StringBuilder();
        for (int i = 0; i < 14; i++) {
            text.append("word ").append((char) ('a' + i)).append((char) ('b' + i)).append(" worth ").append(i % 2 == 0 ? even : odd).append(';');
        }
        return text.toString();
    }

    private static void scoreFromLeastToMost() {
        LastLetter x = Due.told(weighed(0, 99));
        Due.is("25 seven times 99", x.score(0), 693);
        Due.is("25 below 0: six times 99", x.score(1), -594);
        Due.is("25 the last gets 99", x.score(12), 99);
        Due.is("25 none gets anything", x.score(13), 0);
        Due.is("25 all of worth 0", Due.told(weighed(0, 0)).score(0), 0);
        LastLetter y = Due.told(weighed(99, 0));
        Due.is("25 six times 99 for the other one", y.score(0), -594);
        Due.is("25 six times 99", y.score(1), 594);
        Due.is("25 by the first word", Due.told("word ba worth 9;word ab worth 0;word bc worth 1;").score(1), 9);
        Due.is("25 by the last word", Due.told("word bc worth 1;word ab worth 0;word ba worth 9;").score(1), 9);
        Due.is("25 -1 is a score", Due.told("word ab worth 0;word bc worth 1;word cd worth 2;").score(0), -1);
    }

    private static void scoreIsNotTheGame() {
        // Behind ab: bx (1) ends it; bc (50), then cd (10) must be said.
        LastLetter x = Due.told("word ab worth 1;word bx worth 1;word bc worth 50;word cd worth 10;");
        Due.is("23 bx wins the game", x.wins(0), 1);
        Due.is("25 but bc gets more", x.score(0), 40);
        // He who can go on must, though it costs him.
        LastLetter y = Due.told("word ab worth 1;word bc worth 1;word cd worth 50;");
        Due.is("25 none may stop", y.score(0), -49);
    }

    private static void whatWasSaidCountsNot() {
        LastLetter x = Due.told(Due.chain(4));
        x.say(0);
        x.say(1);
        x.say(2);
        x.say(3);
        Due.is("22 game", x.game(0), 1);
        Due.is("23 wins", x.wins(0), 1);
        Due.is("24 deep", x.deep(0), 3);
        Due.is("25 score", x.score(0), 1);
        Due.is("27 again", x.again(0), 1);
        Due.is("28 dead", x.dead(), 8);
    }

    private static void againOfNoneSuch() {
        LastLetter x = Due.told(Due.chain(3));
        Due.is("27 the last one", x.again(2), 0);
        Due.is("27 again(3)", x.again(3), NONE);
        for (int word : NEVER) {
            Due.is("27 again(" + word + ")", x.again(word), NONE);
        }
        LastLetter y = Due.told(Due.loops(24));
        for (int word : NEVER) {
            Due.is("27 again(" + word + ") of 24", y.again(word), NONE);
        }
    }

    private static void againInAChainOf24() {
        LastLetter x = Due.told(Due.chain(24));
        for (int word = 0; word < 24; word++) {
            Due.is("27 chain, again(" + word + ")", x.again(word), (23 - word) % 2);
        }
    }

    private static void againInAChainToldFromItsEnd() {
        StringBuilder text = new StringBuilder();
        for (int i = 0; i < 24; i++) {
            text.append("word ").append((char) ('y' - i)).append((char) ('z' - i)).append(" worth 1;");
        }
        LastLetter x = Due.told(text.toString());
        for (int word = 0; word < 24; word++) {
            Due.is("27 from its end, again(" + word + ")", x.again(word), word % 2);
        }
    }

    private static void againForEver() {
        Due.is("27 itself for ever", Due.told("word aa worth 1;").again(0), 2);
        LastLetter x = Due.told("word ab worth 1;word ba worth 1;");
        Due.is("27 both for ever", x.again(0), 2);
        Due.is("27 both for ever", x.again(1), 2);
        Due.is("22 each once: the second can't", x.game(0), 1);
    }

    private static void againOutOfARound() {
        // bx loses, so ab wins, so ba and cba lose, so cc and dc win, though cc could go on for ever.
        LastLetter x = Due.told("word ab worth 1;word ba worth 1;word bx worth 1;word cc worth 1;word cba worth 1;word dc worth 1;");
        int[] due = {1, 0, 0, 1, 0, 1};
        for (int word = 0; word < due.length; word++) {
            Due.is("27 again(" + word + ")", x.again(word), due[word]);
        }
        // Behind aa: ab loses (bx follows), aa goes on for ever.
        LastLetter y = Due.told("word aa worth 1;word ab worth 1;word bx worth 1;");
        Due.is("27 rather for ever than lost", y.again(0), 2);
        Due.is("27 won", y.again(1), 1);
    }

    private static void deadOfAllAndNone() {
        StringBuilder text = new StringBuilder();
        for (int i = 0; i < 24; i++) {
            text.append("word a").append((char) ('a' + i)).append("z worth 1;");
        }
        Due.is("28 all 24", Due.told(text.toString()).dead(), 0xFFFFFF);
        Due.is("28 the last of a chain", Due.told(Due.chain(24)).dead(), 1 << 23);
        Due.is("28 none of 24", Due.told(Due.loops(24)).dead(), 0);
        Due.is("28 one that follows none is not dead", Due.told("word ab worth 1;word bb worth 1;").dead(), 0);
    }

    private static void deadByEachLaw() {
        String words = "word a worth 1;word ab worth 1;word ba worth 1;";
        Due.is("28 law one", Due.told(words).dead(), 0);
        Due.is("28 law two: one letter", Due.told("law two;" + words).dead(), 1);
        Due.is("28 law other: all begin as it ends", Due.told("law other;word a worth 1;word ab worth 1;alike a b;").dead(), 3);
    }
}
