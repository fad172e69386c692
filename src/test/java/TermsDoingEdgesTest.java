/**
 * The boundaries that the document's Terms name for what is done and asked (its parts behind ====): sentence by
 * sentence, in the document's order, a test for each.
 */
public final class TermsDoingEdgesTest {
    private static final int NONE = KeyLetters.NONE;
    private static final int BYTES = 256;
    /** Three MACHINES that answer one another with one PHRASE. */
    private static final String ROUND = "machine a 9; machine b 9; machine c 9; phrase p 1 4; knows a p; knows b p;"
            + "knows c p; answers p p;";
    /** Two of them, with INK enough to owe the most. */
    private static final String RICH = "machine a 999; machine b 999; phrase p 1 99; phrase q 1 98; knows a p; knows b p;"
            + "knows a q; knows b q; answers p p; answers p q; answers q p; answers q q;";

    private static final Checks C = new Checks();

    public static void main(String[] args) {
        writing();
        girlsAndRibbons();
        clearing();
        days();
        coming();
        rows();
        letters();
        numbers();
        draws();
        newOffices();
        C.end("TermsDoingEdgesTest");
    }

    private static void writing() {
        thereIsNoLatestAtFirst();
        whyNotIsTheLeast();
        withNoLatest2And4AreNotAsked();
        asMuchInkAsThePhraseIsLong();
        theLatestIsOfThatMachine();
        whoWroteTheOneAheadOwesTheClaimWrittenNow();
        nobodyOwesWithNoLatestAhead();
        coins9999AtMost();
        coins9999ToTheCoin();
    }

    private static void girlsAndRibbons() {
        sheSitsIfNoneSits();
        sheLeavesIfOneSits();
        aRibbonOfMoreInkAlone();
    }

    private static void clearing() {
        clearNeedsTwoWhoOweEachOther();
        bothOweLessByTheLesser();
        likeOnesAreClearedWhole();
        ofEachSuchTwo();
    }

    private static void days() {
        from0OnIfThereIsNoLatest();
        fromTheOneBehindAllRound();
        theFirstThatCan();
        theLeastPhraseThatItCan();
        noLatestAnyMoreIfNoneCan();
        oneLetterMoreOnlyIfThereWasALatest();
        days0To399();
    }

    private static void coming() {
        comesInOneAtLeast();
        comesThroughNoGirl();
        comesByAnotherMachineThanTheOneAhead();
        comesWithInkNoMatter();
        comesWithNoLatestByAny();
        comesByTheLeastMachineThenTheLeastPhrase();
        comesAfterALongWay();
        comesNever();
        silentInOneTo99();
    }

    private static void rows() {
        waysBy1To9Bytes();
        noTwoNeighboursAlike();
        eachKnowsItsPhrase();
        theFirstOfTheWays();
        askIsTheFirstOfLikeOnes();
        aByteThatIsNoPhrase();
        lacksBy1To9Bytes();
        lacksCountsEachOnce();
        lacksOfOnePhraseIs0();
    }

    private static void letters() {
        faintBy1To7Bytes();
        faintIsOfSmallLettersAndQuestionMarks();
        aNameIsJustSoLong();
        faintOfEightPhrases();
        lookIsTheFirstOfLikeOnes();
        lookAtAToldLetter();
    }

    private static void numbers() {
        shipBy1To6Losses();
        lossesOf1To60();
        theLeastThatAllDivide();
        shipUpTo99999999();
        partInLeastTerms();
        lineInDigits();
        lineWithAGirl();
    }

    private static void draws() {
        noMachinesNoDraws();
        drawsAreMadeOneByOne();
        noPhrasesNeitherOfTheTwo();
        aRibbonIfItCanBe();
        itWritesIfItCan();
        drawsWrap();
        odds10DaysFromNowOn();
    }

    private static void newOffices() {
        aNewOfficeHasNothingDone();
        whatOtherCallsToldStays();
        aCallThatThrowsChangesNothing();
    }

    // to WRITE

    private static void thereIsNoLatestAtFirst() {
        KeyLetters x = Checks.told(ROUND);
        C.due("no LATEST at first", x.now(1), NONE);
        C.due("nobody wrote it", x.now(2), NONE);
        C.due("they are silent", x.now(4), 0);
        Checks.sentence(x, "latest");
        C.due("of nobody it is said", x.said(NONE), 0);
    }

    private static void whyNotIsTheLeast() {
        KeyLetters x = Checks.told("machine a 1; machine b 0; machine c 0; phrase p 1 1; phrase q 1 1; knows a p;"
                + "knows b p; knows b q; answers p p;");
        x.write(0, 0);
        C.due("2 ahead of 5", x.write(0, 0), 2);
        C.due("2 ahead of 3, 4, 5", x.write(0, 1), 2);
        C.due("3 ahead of 5", x.write(2, 0), 3);
        C.due("3 ahead of 4, 5", x.write(2, 1), 3);
        C.due("4 ahead of 5", x.write(1, 1), 4);
        C.due("5 alone", x.write(1, 0), 5);
        x.sit(0);
        x.sit(1);
        x.sit(2);
        C.due("1 ahead of 2, 5", x.write(0, 0), 1);
        C.due("1 ahead of all", x.write(0, 1), 1);
        C.due("1 ahead of 3, 5", x.write(2, 0), 1);
        C.due("1 ahead of 4, 5", x.write(1, 1), 1);
        C.due("1 ahead of 5", x.write(1, 0), 1);
        x.leave(1);
        x.ribbon(1, 1);
        C.due("none of these", x.write(1, 0), 0);
    }

    private static void withNoLatest2And4AreNotAsked() {
        KeyLetters x = Checks.told("machine a 2; machine b 0; phrase p 1 1; phrase q 1 1; knows a p; knows b q;");
        C.due("a PHRASE that is no ANSWER", x.write(0, 0), 0);
        C.due("2 with a LATEST", x.write(0, 0), 2);
        C.due("none CAN", x.days(1), 1);
        C.due("who wrote ahead of the silence", x.write(0, 0), 0);
        x.days(1);
        C.due("3 is asked", x.write(0, 1), 3);
        C.due("5 is asked", x.write(1, 1), 5);
        x.sit(1);
        C.due("1 is asked", x.write(1, 1), 1);
    }

    private static void asMuchInkAsThePhraseIsLong() {
        KeyLetters x = Checks.told("machine a 39; machine b 40; phrase p 40 0; knows a p; knows b p; answers p p;");
        C.due("one letter less", x.write(0, 0), 5);
        C.due("just as much", x.write(1, 0), 0);
        C.due("so much less", x.machine(1, 0), 0);
        x.ribbon(0, 41);
        C.due("one letter more", x.write(0, 0), 0);
        C.due("so much less again", x.machine(0, 0), 1);
    }

    private static void theLatestIsOfThatMachine() {
        KeyLetters x = Checks.told(RICH);
        x.write(1, 1);
        C.due("the LATEST", x.now(1) * 10 + x.now(2), 11);
        x.write(0, 0);
        C.due("the LATEST now", x.now(1) * 10 + x.now(2), 0);
        C.due("refused", x.write(0, 0), 2);
        C.due("the LATEST still", x.now(1) * 10 + x.now(2), 0);
    }

    private static void whoWroteTheOneAheadOwesTheClaimWrittenNow() {
        KeyLetters x = Checks.told(RICH);
        x.write(0, 0);
        x.write(1, 1);
        C.due("the CLAIM of the PHRASE written now", x.owes(0, 1), 98);
        C.due("who writes owes nothing", x.owes(1, 0), 0);
        x.write(0, 0);
        C.due("the other way", x.owes(1, 0), 99);
        x.write(1, 0);
        C.due("so many more", x.owes(0, 1), 197);
    }

    private static void nobodyOwesWithNoLatestAhead() {
        KeyLetters x = Checks.told(ROUND);
        x.write(0, 0);
        C.due("the first", x.now(7), 0);
        x.sit(1);
        x.sit(2);
        x.days(1);
        x.leave(1);
        x.write(1, 0);
        C.due("the first behind a silence", x.now(7), 0);
        x.write(0, 0);
        C.due("the next one", x.now(7), 4);
    }

    private static void coins9999AtMost() {
        KeyLetters x = Checks.told(RICH);
        for (int i = 0; i < 203; i++) {
            x.write(i % 2, 0);
        }
        C.due("101 times 99", x.owes(0, 1), 9999);
        x.write(1, 0);
        C.due("no more", x.owes(0, 1), 9999);
        C.due("nor the other way", x.owes(1, 0), 9999);
        C.due("each of them in all", x.machine(0, 6) + x.machine(0, 7), 19998);
        C.due("both ways in all", x.now(7), 19998);
        C.due("to CLEAR the most", x.clear(), 0);
        C.due("nothing is left", x.now(7), 0);
    }

    private static void coins9999ToTheCoin() {
        KeyLetters x = Checks.told(RICH);
        for (int i = 0; i < 202; i++) {
            x.write(i % 2, i < 4 ? 1 : 0);
        }
        C.due("two of 98, 99 of 99", x.owes(0, 1), 9997);
        x.write(0, 0);
        x.write(1, 1);
        C.due("98 more are cut", x.owes(0, 1), 9999);
    }

    // girls, ribbons

    private static void sheSitsIfNoneSits() {
        KeyLetters x = Checks.told(ROUND);
        C.due("she does", x.sit(0), 0);
        C.due("one sits there", x.sit(0), 1);
        C.due("still there", x.now(3), 1);
        for (int m = 1; m < 3; m++) {
            C.due("at each", x.sit(m), 0);
        }
        C.due("at all", x.now(3), 7);
    }

    private static void sheLeavesIfOneSits() {
        KeyLetters x = Checks.told(ROUND);
        C.due("none sits there", x.leave(2), 1);
        x.sit(2);
        C.due("she does", x.leave(2), 0);
        C.due("none sits there any more", x.leave(2), 1);
        C.due("nobody is there", x.now(3), 0);
    }

    private static void aRibbonOfMoreInkAlone() {
        KeyLetters x = Checks.told("machine a 9; machine b 0; machine c 999;");
        C.due("less", x.ribbon(0, 8), 1);
        C.due("as much", x.ribbon(0, 9), 1);
        C.due("it has what it had", x.machine(0, 0), 9);
        C.due("more", x.ribbon(0, 10), 0);
        C.due("it has that, not so much more", x.machine(0, 0), 10);
        C.due("the least for one that has none", x.ribbon(1, 1), 0);
        C.due("the most for one that has it", x.ribbon(2, 999), 1);
    }

    // to CLEAR

    private static void clearNeedsTwoWhoOweEachOther() {
        KeyLetters x = Checks.told(ROUND);
        C.due("nobody owes", x.clear(), 1);
        x.write(0, 0);
        x.write(1, 0);
        C.due("one way", x.clear(), 1);
        x.write(2, 0);
        x.write(0, 0);
        C.due("round three of them", x.clear(), 1);
        C.due("all is owed still", x.now(7), 12);
        x.write(2, 0);
        C.due("two of them both ways", x.clear(), 0);
        C.due("the others as before", x.now(7), 8);
        C.due("nothing more to CLEAR", x.clear(), 1);
    }

    private static void bothOweLessByTheLesser() {
        KeyLetters x = Checks.told(RICH);
        x.write(0, 0);
        x.write(1, 1);
        x.write(0, 0);
        C.due("98 and 99", x.owes(0, 1) * 100 + x.owes(1, 0), 9899);
        x.clear();
        C.due("0 and 1", x.owes(0, 1) * 100 + x.owes(1, 0), 1);
        x.write(1, 0);
        x.clear();
        C.due("98 and 0", x.owes(0, 1) * 100 + x.owes(1, 0), 9800);
    }

    private static void likeOnesAreClearedWhole() {
        KeyLetters x = Checks.told(ROUND);
        x.write(0, 0);
        x.write(1, 0);
        x.write(0, 0);
        C.due("4 each", x.owes(0, 1) * 10 + x.owes(1, 0), 44);
        C.due("done", x.clear(), 0);
        C.due("0 each", x.now(7), 0);
    }

    private static void ofEachSuchTwo() {
        KeyLetters x = Checks.told(ROUND);
        for (int m : new int[] {0, 1, 0, 2, 0, 2, 1, 2}) {
            x.write(m, 0);
        }
        C.due("a and b", x.owes(0, 1) * 10 + x.owes(1, 0), 44);
        C.due("a and c", x.owes(0, 2) * 10 + x.owes(2, 0), 84);
        C.due("b and c", x.owes(1, 2) * 10 + x.owes(2, 1), 44);
        x.clear();
        C.due("a owes c 4 alone", x.owes(0, 2) * 100 + x.now(7), 404);
    }

    // a DAY

    private static void from0OnIfThereIsNoLatest() {
        KeyLetters x = Checks.told(ROUND);
        x.days(1);
        C.due("0 at first", x.now(2), 0);
        KeyLetters y = Checks.told(ROUND.replace("answers p p;", ""));
        y.write(1, 0);
        y.days(1);
        C.due("silence", y.now(2), NONE);
        y.days(1);
        C.due("0 behind a silence", y.now(2), 0);
    }

    private static void fromTheOneBehindAllRound() {
        KeyLetters x = Checks.told(ROUND);
        x.write(1, 0);
        x.days(1);
        C.due("the one behind it", x.now(2), 2);
        x.days(1);
        C.due("0 behind the last one", x.now(2), 0);
        x.sit(1);
        x.days(1);
        C.due("one with a girl is passed by", x.now(2), 2);
        x.sit(0);
        x.leave(1);
        x.days(1);
        C.due("passed by, round the end", x.now(2), 1);
    }

    private static void theFirstThatCan() {
        KeyLetters x = Checks.told("machine a 9; machine b 0; machine c 9; machine d 9; phrase p 1 1; phrase q 1 1;"
                + "knows a p; knows b p; knows c q; knows d p; answers p p;");
        x.write(0, 0);
        x.days(1);
        C.due("b has no INK, c knows no ANSWER", x.now(2), 3);
        x.days(1);
        C.due("and on", x.now(2), 0);
    }

    private static void theLeastPhraseThatItCan() {
        KeyLetters x = Checks.told("machine a 9; machine b 5; phrase p 1 1; phrase q 6 1; phrase r 5 1; phrase s 4 1;"
                + "phrase t 1 1; knows a p; knows b p; knows b q; knows b r; knows b t; answers q p; answers r p;"
                + "answers s p; answers t p;");
        x.write(0, 0);
        x.days(1);
        C.due("p is no ANSWER, q is too LONG", x.now(1) * 10 + x.now(2), 21);
    }

    private static void noLatestAnyMoreIfNoneCan() {
        KeyLetters x = Checks.told(ROUND);
        x.write(2, 0);
        x.sit(0);
        x.sit(1);
        C.due("the DAY goes", x.days(1), 1);
        C.due("no LATEST", x.now(1), NONE);
        C.due("nobody wrote it", x.now(2), NONE);
        C.due("one LETTER is over", x.now(6), 1);
        C.due("the next DAY", x.now(0), 1);
    }

    private static void oneLetterMoreOnlyIfThereWasALatest() {
        KeyLetters x = Checks.told(ROUND);
        x.sit(0);
        x.sit(1);
        x.sit(2);
        x.days(9);
        C.due("none was begun", x.now(6), 0);
        x.leave(2);
        x.days(1);
        C.due("one is begun", x.now(6) * 10 + x.now(2), 2);
        x.sit(2);
        x.days(9);
        C.due("one is over, once", x.now(6), 1);
        C.due("the DAYS go on", x.now(0), 19);
    }

    private static void days0To399() {
        KeyLetters x = new KeyLetters();
        C.due("DAY 0", x.now(0), 0);
        for (int i = 0; i < 6; i++) {
            x.days(60);
        }
        C.due("39 of them", x.days(39), 39);
        C.due("DAY 399", x.now(0), 399);
        C.due("the last one alone", x.days(60), 1);
        C.due("DAY 400", x.now(0), 400);
        C.due("all are over", x.days(1), 0);
        C.due("all are over for DRAWN ones, too", x.drawn(1, 1), 0);
        C.due("fewer DAYS are left", Checks.book(x, 1, "day 1;"), 0);
        C.due("DAY 400 it stays", x.now(0), 400);
    }

    // COMES, SILENT

    private static void comesInOneAtLeast() {
        KeyLetters x = Checks.told(ROUND);
        C.due("at once", x.comes(0), 1);
        x.write(0, 0);
        C.due("the LATEST itself once more", x.comes(0), 1);
        C.due("by the least other one", x.comesAt(0), 8);
    }

    private static void comesThroughNoGirl() {
        KeyLetters x = Checks.told(ROUND);
        x.sit(0);
        C.due("by another one", x.comes(0) * 100 + x.comesAt(0), 108);
        x.sit(1);
        x.sit(2);
        C.due("girls everywhere", x.comes(0), NONE);
    }

    private static void comesByAnotherMachineThanTheOneAhead() {
        KeyLetters x = Checks.told("machine a 9; machine b 9; phrase p 1 1; phrase q 1 1; phrase r 1 1; knows a p;"
                + "knows a q; knows b p; knows b r; answers q p; answers r p; answers p q; answers p p;");
        x.write(0, 0);
        C.due("q not by a, who wrote p: p by b is between", x.comes(1), 2);
        C.due("by b and a", x.comesAt(0) * 100 + x.comesAt(1), 801);
        C.due("r by b at once", x.comes(2), 1);
    }

    private static void comesWithInkNoMatter() {
        KeyLetters x = Checks.told(ROUND.replace(" 9;", " 0;"));
        C.due("nobody CAN", x.machine(0, 5) + x.machine(1, 5) + x.machine(2, 5), 0);
        C.due("INK no matter", x.comes(0), 1);
    }

    private static void comesWithNoLatestByAny() {
        KeyLetters x = Checks.told("machine a 9; machine b 9; phrase p 1 1; phrase q 1 1; knows b q;");
        C.due("no ANSWER to anything", x.comes(1) * 100 + x.comesAt(0), 109);
        C.due("nobody knows it", x.comes(0), NONE);
        x.write(1, 1);
        C.due("never again", x.comes(1), NONE);
        x.days(1);
        C.due("behind a silence", x.comes(1), 1);
    }

    private static void comesByTheLeastMachineThenTheLeastPhrase() {
        // to w, which d knows, from p of a: b may write t, c may write q or r, and w is an ANSWER to all of these
        KeyLetters x = Checks.told("machine a 9; machine b 9; machine c 9; machine d 9; phrase p 1 1; phrase q 1 1;"
                + "phrase r 1 1; phrase t 1 1; phrase w 1 1; knows a p; knows b t; knows c q; knows c r; knows d w;"
                + "answers q p; answers r p; answers t p; answers w q; answers w r; answers w t;");
        x.write(0, 0);
        C.due("two phrases", x.comes(4), 2);
        C.due("the least MACHINE, though its PHRASE is greater", x.comesAt(0), 8 + 3);
        C.due("and the last", x.comesAt(1), 24 + 4);
        x.sit(1);
        C.due("two phrases still", x.comes(4), 2);
        C.due("the least PHRASE of the least MACHINE", x.comesAt(0), 16 + 1);
    }

    private static void comesAfterALongWay() {
        StringBuilder text = new StringBuilder("machine a 9;machine b 9;phrase s 1 1;knows a s;");
        for (char p = 'c'; p <= 'i'; p++) {
            text.append("phrase ").append(p).append(" 1 1;knows a ").append(p).append(";knows b ").append(p).append(';');
        }
        for (char p = 'c'; p <= 'i'; p++) {
            text.append("answers ").append(p == 'i' ? 'c' : (char) (p + 1)).append(' ').append(p).append(';');
        }
        KeyLetters x = Checks.told(text + "answers s i;");
        x.write(0, 1);
        // a writes s, so b must write i; but by the first round of seven a does
        C.due("nearly two rounds", x.comes(0), 14);
        for (int i = 0; i < 13; i++) {
            C.due("step " + i, x.comesAt(i), 8 * ((i + 1) % 2) + 1 + (i + 1) % 7);
        }
        C.due("the last step", x.comesAt(13), 0);
        C.due("none behind it", x.comesAt(14), NONE);
    }

    private static void comesNever() {
        KeyLetters x = Checks.told("machine a 9; phrase p 1 1; phrase q 1 1; knows a p; knows a q; answers q p;");
        C.due("q at first", x.comes(1), 1);
        x.write(0, 0);
        C.due("one MACHINE alone", x.comes(1), NONE);
        C.due("what came before is still told", x.comesAt(0), 1);
    }

    private static void silentInOneTo99() {
        String two = "machine a INK; machine b INK; phrase p 1 1; knows a p; knows b p; answers p p;";
        C.due("in the DAY that is now", Checks.told(two.replace("INK", "0")).silent(), 1);
        C.due("in the next one", Checks.told(two.replaceFirst("INK", "1").replace("INK", "0")).silent(), 2);
        C.due("in 99", Checks.told(two.replace("INK", "49")).silent(), 99);
        C.due("not in 99", Checks.told(two.replaceFirst("INK", "50").replace("INK", "49")).silent(), NONE);
        C.due("never", Checks.told(two.replace("INK", "999")).silent(), NONE);
        KeyLetters x = Checks.told(two.replace("INK", "999"));
        for (int i = 0; i < 7; i++) {
            x.days(60);
        }
        C.due("DAY 400 no matter", x.silent(), NONE);
        x.sit((x.now(2) + 1) % 2);
        C.due("DAY 400 no matter: silence", x.silent(), 1);
    }

    // WAYS, ASK, LACKS

    private static void waysBy1To9Bytes() {
        KeyLetters x = Checks.told(ROUND);
        int due = 3;
        int[] row = new int[0];
        C.due("no bytes", x.ways(), NONE);
        for (int n = 1; n <= 9; n++) {
            row = new int[n];
            C.due(n + " bytes", Checks.ways(x, row), due);
            C.due("the last place of " + n, x.waysAt(n - 1) == NONE, false);
            C.due("no place behind " + n, x.waysAt(n), NONE);
            due *= 2;
        }
        C.due("ten bytes", Checks.ways(x, new int[10]), NONE);
        C.due("twenty bytes", Checks.ways(x, new int[20]), NONE);
    }

    private static void noTwoNeighboursAlike() {
        KeyLetters x = Checks.told("machine a 9; machine b 9; phrase p 1 1; phrase q 1 1; knows a p; knows a q;"
                + "knows b q;");
        C.due("one alone can't write two", Checks.ways(x, 0, 0), 0);
        C.due("one between", Checks.ways(x, 0, 1, 0), 1);
        C.due("a, b, a", x.waysAt(0) * 100 + x.waysAt(1) * 10 + x.waysAt(2), 10);
        C.due("two between", Checks.ways(x, 0, 1, 1, 0), 0);
    }

    private static void eachKnowsItsPhrase() {
        KeyLetters x = Checks.told("machine a 9; machine b 9; machine c 9; phrase p 1 1; phrase q 1 1; knows a p;"
                + "knows b p; knows c q;");
        C.due("p by a, b", Checks.ways(x, 0), 2);
        C.due("q by c", Checks.ways(x, 1), 1);
        C.due("p, q", Checks.ways(x, 0, 1), 2);
        C.due("p, q, p", Checks.ways(x, 0, 1, 0), 4);
        x.sit(0);
        C.due("a girl is no matter", Checks.ways(x, 0), 2);
    }

    private static void theFirstOfTheWays() {
        KeyLetters x = Checks.told("machine a 9; machine b 9; machine c 9; phrase p 1 1; phrase q 1 1; knows a p;"
                + "knows b p; knows a q;");
        C.due("p, p, q", Checks.ways(x, 0, 0, 1), 1);
        C.due("not a at first, as it is needed at last", x.waysAt(0) * 100 + x.waysAt(1) * 10 + x.waysAt(2), 10);
        C.due("p, q", Checks.ways(x, 0, 1), 1);
        C.due("b, a", x.waysAt(0) * 10 + x.waysAt(1), 10);
    }

    private static void askIsTheFirstOfLikeOnes() {
        KeyLetters x = Checks.told("machine a 9; machine b 9; machine c 9; phrase p 1 1; phrase q 1 1; phrase r 1 1;"
                + "knows a p; knows a q; knows b q; knows a r; knows b r; knows c r;");
        // b a, c a: by the first place 1 is left, by the second one 2
        C.due("r, p", Checks.ways(x, 2, 0), 2);
        C.due("the first place", x.ask(), 0);
        // a b, a c
        C.due("p, r", Checks.ways(x, 0, 2), 2);
        C.due("the second place", x.ask(), 1);
        // a b a, a c a
        C.due("p, r, p", Checks.ways(x, 0, 2, 0), 2);
        C.due("the place between", x.ask(), 1);
        // a b, b a: 1 is left by either
        C.due("q, q", Checks.ways(x, 1, 1), 2);
        C.due("of like ones the first", x.ask(), 0);
        // a, b, c
        C.due("r alone", Checks.ways(x, 2), 3);
        C.due("the one place", x.ask(), 0);
        // ab, ac, ba, bc: 2 by the first place; a 1, b 1, c 2 by the second
        C.due("q, r", Checks.ways(x, 1, 2), 4);
        C.due("of like ones the first again", x.ask(), 0);
    }

    private static void aByteThatIsNoPhrase() {
        for (int b = 0; b < BYTES; b++) {
            KeyLetters x = Checks.told(ROUND + "phrase q 1 1; phrase r 1 1;");
            C.due("WAYS of the byte " + b, Checks.ways(x, b), b == 0 ? 3 : b < 3 ? 0 : NONE);
            C.due("WAYS of a second byte " + b, Checks.ways(x, 0, b), b == 0 ? 6 : b < 3 ? 0 : NONE);
            C.due("LACKS of the byte " + b, Checks.lacks(x, b), b < 3 ? 0 : NONE);
            C.due("LACKS of a second byte " + b, Checks.lacks(x, 0, b), b == 0 ? 0 : b < 3 ? 1 : NONE);
        }
    }

    private static void lacksBy1To9Bytes() {
        KeyLetters x = Checks.told("phrase p 1 1;");
        C.due("no bytes", x.lacks(), NONE);
        for (int n = 1; n <= 9; n++) {
            C.due(n + " bytes", Checks.lacks(x, new int[n]), n == 1 ? 0 : 1);
        }
        C.due("ten bytes", Checks.lacks(x, new int[10]), NONE);
        C.due("twenty bytes", Checks.lacks(x, new int[20]), NONE);
    }

    private static void lacksCountsEachOnce() {
        KeyLetters x = Checks.told("phrase p 1 1; phrase q 1 1; phrase r 1 1; answers q p;");
        C.due("q answers p", Checks.lacks(x, 0, 1), 0);
        C.due("p does not answer q", Checks.lacks(x, 1, 0), 1);
        C.due("that one twice", Checks.lacks(x, 1, 0, 1, 0), 1);
        C.due("alike ones twice", Checks.lacks(x, 2, 2, 2), 1);
        C.due("three alike ones", Checks.lacks(x, 0, 0, 1, 1, 2, 2), 4);
        C.due("all nine bytes", Checks.lacks(x, 0, 0, 2, 0, 1, 0, 2, 1, 2), 6);
        C.due("one by the other way", Checks.lacks(x, 2, 1, 2), 2);
    }

    private static void lacksOfOnePhraseIs0() {
        KeyLetters x = Checks.told("phrase p 1 1; phrase q 1 1;");
        C.due("one PHRASE", Checks.lacks(x, 0), 0);
        C.due("another one", Checks.lacks(x, 1), 0);
        C.due("no bytes", x.lacks(), NONE);
        StringBuilder text = new StringBuilder();
        for (char p = 'a'; p <= 'h'; p++) {
            text.append("phrase ").append(p).append(" 1 1;");
        }
        KeyLetters full = Checks.told(text.toString());
        C.due("each of nine bytes another one", Checks.lacks(full, 7, 7, 0, 0, 1, 7, 6, 0, 7), 8);
        C.due("like sums, like products", Checks.lacks(full, 0, 7, 1, 6, 2, 5, 3, 4, 4), 8);
    }

    // FAINT, LOOK

    private static void faintBy1To7Bytes() {
        KeyLetters x = Checks.told("phrase a 1 1; phrase bb 1 1; phrase ccc 1 1; phrase dddd 1 1; phrase eeeee 1 1;"
                + "phrase ffffff 1 1; phrase ggggggg 1 1;");
        C.due("no bytes", x.faint(), NONE);
        for (int n = 1; n <= 7; n++) {
            C.due(n + " bytes", Checks.faint(x, "?".repeat(n)), 1 << n - 1);
            C.due(n + " letters", Checks.faint(x, String.valueOf((char) ('a' + n - 1)).repeat(n)), 1 << n - 1);
            C.due(n + " other letters", Checks.faint(x, "z".repeat(n)), 0);
        }
        C.due("eight bytes", Checks.faint(x, "????????"), NONE);
        C.due("twenty bytes", Checks.faint(x, "g".repeat(20)), NONE);
    }

    private static void faintIsOfSmallLettersAndQuestionMarks() {
        for (int b = 0; b < BYTES; b++) {
            KeyLetters x = Checks.told("phrase a 1 1; phrase z 1 1; phrase ab 1 1;");
            boolean letter = b >= 'a' && b <= 'z';
            int due = b == '?' ? 3 : b == 'a' ? 1 : b == 'z' ? 2 : letter ? 0 : NONE;
            C.due("the byte " + b, Checks.faint(x, String.valueOf((char) b)), due);
            int second = b == '?' || b == 'b' ? 4 : letter ? 0 : NONE;
            C.due("the second byte " + b, Checks.faint(x, "a" + (char) b), second);
        }
    }

    private static void aNameIsJustSoLong() {
        KeyLetters x = Checks.told("phrase ab 3 1; phrase abc 2 1; phrase abcd 9 9; machine abd 9;");
        C.due("three letters, however LONG the PHRASE", Checks.faint(x, "ab?"), 2);
        C.due("two", Checks.faint(x, "??"), 1);
        C.due("four", Checks.faint(x, "a???"), 4);
        C.due("one", Checks.faint(x, "a"), 0);
        C.due("a MACHINE is none", Checks.faint(x, "abd"), 0);
    }

    private static void faintOfEightPhrases() {
        KeyLetters x = Checks.told("phrase aa 1 1; phrase ab 1 1; phrase ac 1 1; phrase ad 1 1; phrase ba 1 1;"
                + "phrase bb 1 1; phrase bc 1 1; phrase xd 1 1;");
        C.due("all", Checks.faint(x, "??"), 255);
        C.due("four are left by the first letter, two by the second", x.look(), 1);
        C.due("the last", Checks.faint(x, "x?"), 128);
        C.due("none", Checks.faint(x, "?x"), 0);
    }

    private static void lookIsTheFirstOfLikeOnes() {
        KeyLetters x = Checks.told("phrase ab 1 1; phrase cd 1 1; phrase aef 1 1; phrase agh 1 1; phrase cah 1 1;");
        C.due("ab, cd", Checks.faint(x, "??"), 3);
        C.due("either letter", x.look(), 0);
        C.due("aef, agh, cah", Checks.faint(x, "???"), 28);
        C.due("the one between", x.look(), 1);
        C.due("aef, agh", Checks.faint(x, "a??"), 12);
        C.due("of the second and the third the second", x.look(), 1);
        C.due("agh, cah", Checks.faint(x, "??h"), 24);
        C.due("of the first and the second the first", x.look(), 0);
    }

    private static void lookAtAToldLetter() {
        KeyLetters x = Checks.told("phrase ab 1 1;");
        C.due("one fits", Checks.faint(x, "a?"), 1);
        C.due("each letter leaves that one", x.look(), 0);
        C.due("all letters are told", Checks.faint(x, "ab"), 1);
        C.due("the first still", x.look(), 0);
    }

    // SHIP, PART, LINE

    private static void shipBy1To6Losses() {
        KeyLetters x = new KeyLetters();
        C.due("no loss", x.ship(), NONE);
        C.due("one", Checks.ship(x, 60), 60);
        C.due("six", Checks.ship(x, 1, 2, 3, 4, 5, 6), 60);
        C.due("the sixth counts", Checks.ship(x, 1, 1, 1, 1, 1, 7), 7);
        C.due("seven", Checks.ship(x, 1, 1, 1, 1, 1, 1, 1), NONE);
        C.due("twenty", Checks.ship(x, new int[20]), NONE);
    }

    private static void lossesOf1To60() {
        for (int b = 0; b < BYTES; b++) {
            int due = b >= 1 && b <= 60 ? b : NONE;
            C.due("a loss of " + b, Checks.ship(new KeyLetters(), b), due);
        }
        KeyLetters x = new KeyLetters();
        C.due("the last one is 0", Checks.ship(x, 1, 2, 3, 4, 5, 0), NONE);
        C.due("the first one is 61", Checks.ship(x, 61, 2), NONE);
        C.due("one between is 61", Checks.ship(x, 2, 61, 2), NONE);
    }

    private static void theLeastThatAllDivide() {
        KeyLetters x = new KeyLetters();
        C.due("like ones", Checks.ship(x, 12, 12, 12), 12);
        C.due("one in the other", Checks.ship(x, 12, 60, 30), 60);
        C.due("a part in common", Checks.ship(x, 12, 18), 36);
        C.due("nothing in common", Checks.ship(x, 59, 60), 3540);
        C.due("powers", Checks.ship(x, 32, 27, 25, 49), 1058400);
    }

    private static void shipUpTo99999999() {
        KeyLetters x = new KeyLetters();
        // no other losses tell one nearer to the bound than these two
        C.due("99999900", Checks.ship(x, 7, 11, 25, 27, 37, 52), 99999900);
        C.due("100000800", Checks.ship(x, 9, 17, 19, 25, 32, 43), NONE);
        C.due("above an int, 4295256210", Checks.ship(x, 45, 46, 47, 49, 51, 53), NONE);
        C.due("the most, by 53 to 59", Checks.ship(x, 53, 55, 56, 57, 58, 59), NONE);
        C.due("great ahead, then refused for the last loss", Checks.ship(x, 53, 55, 57, 58, 59, 61), NONE);
    }

    private static void partInLeastTerms() {
        KeyLetters x = Checks.told("machine a 99; machine b 99; machine c 99; phrase p 1 0; phrase q 6 0; phrase r 12 0;"
                + "knows a p; knows a q; knows b q; knows b r; answers q p; answers q q; answers r q; answers r p;");
        x.write(0, 0);
        C.due("1 of 1", x.part(0, 0) * 100 + x.part(0, 1), 101);
        C.due("0 of 1", x.part(1, 0) * 100 + x.part(1, 1), 1);
        x.write(1, 1);
        C.due("1 of 7", x.part(0, 0) * 100 + x.part(0, 1), 107);
        C.due("6 of 7", x.part(1, 0) * 100 + x.part(1, 1), 607);
        x.write(0, 1);
        C.due("7 of 13", x.part(0, 0) * 100 + x.part(0, 1), 713);
        x.undo();
        x.undo();
        x.undo();
        x.write(0, 1);
        x.write(1, 2);
        C.due("6 of 18", x.part(0, 0) * 100 + x.part(0, 1), 103);
        C.due("12 of 18", x.part(1, 0) * 100 + x.part(1, 1), 203);
        C.due("0 of 18", x.part(2, 0) * 100 + x.part(2, 1), 1);
    }

    private static void lineIs(KeyLetters x, int m, String due) {
        C.due("how many bytes: " + due, x.line(m), due.length());
        String text = Checks.lineText(x);
        C.due("it is " + text + ", due is " + due, text.equals(due), true);
    }

    private static void lineInDigits() {
        KeyLetters x = Checks.told("machine a 0; machine abcdefg 999; machine c 100; phrase p 1 1; knows abcdefg p;"
                + "knows c p; answers p p;");
        lineIs(x, 0, "a wrote 0 ink 0");
        lineIs(x, 1, "abcdefg wrote 0 ink 999");
        for (int i = 0; i < 200; i++) {
            x.write(1 + i % 2, 0);
        }
        lineIs(x, 1, "abcdefg wrote 100 ink 899");
        lineIs(x, 2, "c wrote 100 ink 0");
        x.undo();
        lineIs(x, 2, "c wrote 99 ink 1");
        x.ribbon(2, 10);
        lineIs(x, 2, "c wrote 99 ink 10");
    }

    private static void lineWithAGirl() {
        KeyLetters x = Checks.told("machine ab 7; machine cd 8;");
        x.sit(1);
        lineIs(x, 0, "ab wrote 0 ink 7");
        lineIs(x, 1, "cd wrote 0 ink 8 held");
        x.leave(1);
        lineIs(x, 1, "cd wrote 0 ink 8");
    }

    // DRAWN

    private static void noMachinesNoDraws() {
        KeyLetters x = Checks.told("phrase p 1 1;");
        C.due("DAYS go by", x.drawn(60, 7), 60);
        C.due("nothing else", x.now(0) * 10 + x.now(3) + x.now(4), 600);
    }

    /** The seed goes on from draw to draw. */
    private static final class Draws {
        private int x;

        Draws(int seed) {
            x = seed;
        }

        int of(int n) {
            x = x * 1103515245 + 12345;
            return (x >>> 8) % n;
        }
    }

    /** Nobody knows a PHRASE here, so girls and ribbons alone tell which draws were made. */
    private static void drawsAreTold(String phrases, int seed) {
        KeyLetters x = Checks.told("machine a 5; machine b 10; machine c 0; machine d 40; machine e 59;" + phrases);
        int[] ink = {5, 10, 0, 40, 59};
        int girls = 0;
        Draws draws = new Draws(seed);
        for (int day = 0; day < 60; day++) {
            int act = draws.of(8);
            if (act == 0) {
                girls ^= 1 << draws.of(5);
            } else if (act == 1) {
                int m = draws.of(5);
                ink[m] = Math.max(ink[m], draws.of(60) + 1);
            } else if (act <= 4 && x.count(1) > 0) {
                draws.of(5);
                draws.of(x.count(1));
            }
        }
        C.due("60 DAYS", x.drawn(60, seed), 60);
        C.due("girls by " + seed + phrases, x.now(3), girls);
        for (int m = 0; m < 5; m++) {
            C.due("INK by " + seed + phrases, x.machine(m, 0), ink[m]);
        }
    }

    private static void drawsAreMadeOneByOne() {
        for (int i = 0; i < 40; i++) {
            drawsAreTold("phrase p 1 1; phrase q 1 1; phrase r 1 1;", i);
        }
    }

    private static void noPhrasesNeitherOfTheTwo() {
        for (int i = 0; i < 40; i++) {
            drawsAreTold("", i);
        }
    }

    private static void aRibbonIfItCanBe() {
        boolean[] seen = new boolean[3];
        for (int i = 0; i < 4000; i++) {
            int seed = i * 0x9e3779b9;
            Draws draws = new Draws(seed);
            if (draws.of(8) == 1) {
                draws.of(1);
                int ribbon = draws.of(60) + 1;
                KeyLetters x = Checks.told("machine a 30;");
                x.drawn(1, seed);
                C.due("INK by a RIBBON of " + ribbon, x.machine(0, 0), Math.max(30, ribbon));
                seen[0] |= ribbon == 1;
                seen[1] |= ribbon == 30 || ribbon == 31;
                seen[2] |= ribbon == 60;
            }
        }
        C.due("RIBBONS of 1, 30 and 60 were among them", seen[0] && seen[1] && seen[2], true);
    }

    /** b alone can write, but never by turn, as a, who writes first, is not answered by it. */
    private static void itWritesIfItCan() {
        int done = 0;
        int refused = 0;
        for (int seed = 0; seed < 400; seed++) {
            Draws draws = new Draws(seed);
            int act = draws.of(8);
            if (act < 2 || act > 4) {
                continue;
            }
            int m = draws.of(2);
            int p = draws.of(2);
            KeyLetters x = Checks.told("machine a 9; machine b 9; phrase p 1 1; phrase q 1 1; knows a p; knows b q;");
            x.drawn(1, seed);
            boolean can = m == p;
            // what was written by the draw is not answered: silence; what was not is written by turn: a writes p
            C.due("LATEST by " + seed, x.now(1), can ? NONE : 0);
            C.due("phrases by " + seed, x.now(4), 1);
            C.due("by b, by " + seed, x.machine(1, 3), can && m == 1 ? 1 : 0);
            done += can ? 1 : 0;
            refused += can ? 0 : 1;
        }
        C.due("some could, some could not", done > 0 && refused > 0, true);
    }

    private static void drawsWrap() {
        for (int seed : new int[] {Integer.MIN_VALUE, Integer.MIN_VALUE + 1, -1, 0, 1, Integer.MAX_VALUE,
            Integer.MAX_VALUE - 1, 1 << 30, 123456789, -987654321}) {
            drawsAreTold("phrase p 1 1; phrase q 1 1; phrase r 1 1; phrase s 1 1; phrase t 1 1;", seed);
            drawsAreTold("", seed);
        }
    }

    private static void odds10DaysFromNowOn() {
        KeyLetters x = Checks.told("machine a 13; machine b 13; phrase p 12 1; knows a p; knows b p; answers p p;");
        x.write(0, 0);
        x.write(1, 0);
        x.image(0);
        int[] more = new int[2];
        for (int i = 0; i < 30; i++) {
            x.drawn(10, i * 7919);
            for (int m = 0; m < 2; m++) {
                more[m] += x.machine(m, 3) > 1 ? 1 : 0;
            }
            x.restore(0);
        }
        C.due("some write more, some don't", more[0] > 0 && more[0] < 30, true);
        for (int m = 0; m < 2; m++) {
            int told = 0;
            for (int i = 0; i < 30; i++) {
                told += x.odds(m, 1, i * 7919);
            }
            C.due("more than until now, by each seed alone " + m, told, more[m]);
        }
    }

    // a new OFFICE

    private static void aNewOfficeHasNothingDone() {
        KeyLetters x = Checks.told(ROUND);
        x.days(3);
        x.sit(1);
        x.drawn(9, 4);
        Checks.sentence(x, "held");
        C.due("told again", Checks.office(x, ROUND), 8);
        for (int what = 0; what <= 7; what++) {
            C.due("now " + what, x.now(what), what == 1 || what == 2 ? NONE : 0);
        }
        for (int m = 0; m < 3; m++) {
            C.due("INK " + m, x.machine(m, 0), 9);
            for (int what = 2; what <= 7; what++) {
                C.due("MACHINE " + m + ", " + what, x.machine(m, what), what == 5 ? 1 : 0);
            }
        }
        C.due("no SENTENCE", x.said(NONE), NONE);
        C.due("nothing can be undone", x.undo(), NONE);
        C.partThrows(x, 0, 0);
    }

    private static void whatOtherCallsToldStays() {
        KeyLetters x = Checks.told(Checks.OFFICE);
        x.comes(2);
        Checks.ways(x, 0, 1);
        Checks.faint(x, "b???");
        Checks.faint(x, "?o??");
        x.line(1);
        Checks.book(x, 1, "day 2; clear;");
        x.image(1);
        C.due("another one", Checks.office(x, "machine m 3;"), 1);
        C.due("comesAt", x.comesAt(0), 10);
        C.due("waysAt", x.waysAt(0) * 10 + x.waysAt(1), 2);
        C.due("ask", x.ask(), 0);
        C.due("look", x.look(), 0);
        C.due("byteAt", x.byteAt(0), 'o');
        C.due("told", x.told(0) * 100 + x.told(1) * 10 + x.told(2), 4112);
        C.due("an image", x.restore(1), true);
        C.due("as then", x.now(0), 2);
    }

    private static void aCallThatThrowsChangesNothing() {
        KeyLetters x = Checks.told(Checks.OFFICE);
        x.sit(2);
        Checks.feed(x, "ab");
        int[] before = new int[8];
        for (int what = 0; what < 8; what++) {
            before[what] = x.now(what);
        }
        C.machineThrows(x, 3, 0);
        C.machineThrows(x, 0, 8);
        C.partThrows(x, 0, 0);
        C.partThrows(x, 9, 9);
        for (int what = 0; what < 8; what++) {
            C.due("now " + what, x.now(what), before[what]);
        }
        C.due("the tape", x.count(3), 2);
        C.due("the fault", x.fault(), 0);
        C.due("what can be undone", x.undo(), 0);
    }
}
