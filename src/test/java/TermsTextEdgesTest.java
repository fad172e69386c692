/**
 * The boundaries that the document's Terms name for texts (TOKENS, OFFICES, BOOKS, SENTENCES, FAULTS): sentence by
 * sentence, in the document's order, a test for each.
 */
public final class TermsTextEdgesTest {
    private static final int NONE = KeyLetters.NONE;
    private static final int BYTES = 256;
    private static final String[] NO_NAMES = {"machine", "phrase", "knows", "answers", "writes", "sits", "leaves",
        "ribbon", "clear", "day", "or", "and", "not", "held", "latest", "mute", "able", "owes", "ink", "wrote",
        "number"};
    private static final String DAY = "day 1;";

    private static final Checks C = new Checks();
    private static final TextChecks T = new TextChecks(C);

    public static void main(String[] args) {
        tokens();
        office();
        names();
        bookAndSentence();
        faults();
        C.end("TermsTextEdgesTest");
    }

    private static void tokens() {
        tokensWithBlanksBetweenThemOrNot();
        theBlanksAre32And10();
        wordsAreSmallLetters();
        wordsHaveOneToSevenLetters();
        numbersAreDigits();
        numbersHaveOneToThreeDigits();
        theSevenSigns();
        aWordGoesOnAsLongAsLettersAndDigitsDo();
    }

    private static void office() {
        anOfficeHasAtMost900Bytes();
        anOfficeIsLinesWithSemicolons();
        inkIs0To999();
        longIs1To40();
        claimIs0To99();
        knowsIsOfAMachineAndAPhrase();
        answersAreOfAlikeOnesToo();
        eachTwoOnceOfASort();
        sixMachinesAtMost();
        eightPhrasesAtMost();
        numberedFrom0Each();
        allThatCanBeTold();
    }

    private static void names() {
        aNameIsNoneOfTheWordsToldHere();
        wordsLikeThoseAreNames();
        aNameIsToldOnce();
        namesAreAlikeOnlyAsAWhole();
    }

    private static void bookAndSentence() {
        aBookHasAtMost400Bytes();
        aBookHas40LinesAtMost();
        aRibbonIs1To999();
        aDayIs1To60();
        aBookIsOfTheMachinesTold();
        aSentenceHasAtMost200Bytes();
        aSentenceIsOfOneOneAtLeast();
        aSignIsLessAlikeOrGreater();
        aNumberOfASentenceIs0To999();
        aSentenceHas20Ones();
        eightOnesWithinOneAnother();
    }

    private static void faults() {
        theFirstAlongTheText();
        ofOneTokenTheLeast();
        whatIsNoTokenAtIt();
        whatCanNotComeAtIt();
        atTheEndHowManyBytesThereAre();
        theMostBytesToldIfThereAreMore();
        noneOfThatIfAFaultIsAhead();
        tokensThatBeginAheadAreReadWhole();
        aNumberNotAsToldAtIt();
        aNameNotToldOrOfAnotherSort();
        toldTogetherAgainAtTheSecond();
        oneMoreThanThereMayBe();
        a41stLineAtItsFirstWord();
        a21stOneAtItsFirstToken();
        aNinthWithinAtItsFirstToken();
    }

    // TOKENS of all texts

    private static void tokensWithBlanksBetweenThemOrNot() {
        T.officeHolds("machine m 9;machine n 9;phrase p 1 1;knows m p;", 4);
        T.officeHolds("\n \nmachine\n\nm  9 \n;\nphrase p\n1\n1\n;  knows m\np ; ", 3);
        T.bookHolds("rem writes ship;clear;", 1);
        T.bookHolds(" rem\nwrites\nship\n;\nclear\n;\n", 1);
        T.sentenceHolds("not(held)and(ink<5)", 5);
        T.sentenceHolds(" not\n( held )\nand ( ink < 5 ) \n", 5);
        T.officeFault("|mach ine m 9;", 1);
        T.officeFault("machine m 9 |9;", 1);
        T.sentenceFault("ink < 5 |5", 1);
    }

    private static void theBlanksAre32And10() {
        for (int b = 0; b < BYTES; b++) {
            String text = "machine m 9;" + (char) b;
            if (b == ' ' || b == '\n') {
                T.officeHolds(text, 1);
            } else {
                T.officeFaultAt(text, 12, 1);
            }
        }
    }

    private static void wordsAreSmallLetters() {
        for (int b = 0; b < BYTES; b++) {
            String text = "machine " + (char) b + " 9;";
            if (b >= 'a' && b <= 'z') {
                T.officeHolds(text, 1);
            } else {
                T.officeFaultAt(text, b == ' ' || b == '\n' ? 10 : 8, 1);
            }
        }
    }

    private static void wordsHaveOneToSevenLetters() {
        T.officeHolds("machine a 9;", 1);
        T.officeHolds("machine abcdefg 9;", 1);
        T.officeFault("machine |abcdefgh 9;", 1);
        T.officeFault("|machines m 9;", 1);
        KeyLetters x = Checks.told("machine zyxwvut 9;");
        C.due("seven letters are kept", x.line(0), 21);
        C.due("seven letters as told", Checks.lineText(x).equals("zyxwvut wrote 0 ink 9"), true);
    }

    private static void numbersAreDigits() {
        for (int b = 0; b < BYTES; b++) {
            String text = "machine m " + (char) b + ";";
            if (b >= '0' && b <= '9') {
                T.officeHolds(text, 1);
                C.due("the digit " + (char) b, Checks.told(text).machine(0, 0), b - '0');
            } else {
                T.officeFaultAt(text, b == ' ' || b == '\n' ? 11 : 10, 1);
            }
        }
    }

    private static void numbersHaveOneToThreeDigits() {
        C.due("one digit", Checks.told("machine m 7;").machine(0, 0), 7);
        C.due("two digits", Checks.told("machine m 47;").machine(0, 0), 47);
        C.due("three digits", Checks.told("machine m 347;").machine(0, 0), 347);
        C.due("digits that are 0 ahead", Checks.told("machine m 007;").machine(0, 0), 7);
        T.officeFault("machine m |1000;", 1);
        T.officeFault("machine m |0007;", 1);
        T.officeFault("phrase p |0001 1;", 1);
        T.bookFault("day |0001;", 1);
        T.sentenceFault("ink < |0001", 1);
    }

    private static void theSevenSigns() {
        T.sentenceHolds("(ink<5)", 2);
        T.sentenceHolds("(ink=5)", 2);
        T.sentenceHolds("(ink>5)", 2);
        for (char sign : ";<=>).".toCharArray()) {
            T.officeFaultAt(sign + "machine m 9;", 0, 1);
            T.bookFaultAt(sign + DAY, 0, 1);
            T.sentenceFaultAt(sign + "held", 0, 1);
            T.sentenceFaultAt("held" + sign, 4, 1);
            T.officeFaultAt("machine m 9" + sign + sign, sign == ';' ? 12 : 11, 1);
        }
        T.officeFault("machine m 9|(;", 1);
        T.sentenceFault("held|(", 1);
    }

    private static void aWordGoesOnAsLongAsLettersAndDigitsDo() {
        T.officeFault("machine |m9;", 1);
        T.officeFault("machine |m9 9;", 1);
        T.officeFault("machine |9m 9;", 1);
        T.officeFault("machine m |9m;", 1);
        T.officeFault("|machinem 9;", 1);
        T.officeFault("|machine1 9;", 1);
        T.officeFault("machine m |9machine n 9;", 1);
        T.bookFault("|day1;", 1);
        T.bookFault("day |1day 1;", 1);
        T.sentenceFault("|ink5", 1);
        T.sentenceFault("|nothel d", 1);
        T.sentenceFault("ink<|5and held", 1);
    }

    // an OFFICE

    private static void anOfficeHasAtMost900Bytes() {
        String line = "machine m 9;";
        T.officeHolds(Checks.spaces(888) + line, 1);
        T.officeHolds(line + Checks.spaces(888), 1);
        T.officeHolds(Checks.spaces(900), 0);
        T.officeFaultAt(Checks.spaces(889) + line, 900, 1);
        T.officeFaultAt(line + Checks.spaces(889), 900, 1);
        T.officeFaultAt(Checks.spaces(901), 900, 1);
        T.officeFaultAt(Checks.spaces(940), 900, 1);
        T.officeFaultAt(line + Checks.spaces(928), 900, 1);
    }

    private static void anOfficeIsLinesWithSemicolons() {
        T.officeHolds("", 0);
        T.officeHolds("machine m 9;", 1);
        T.officeFault("machine m 9|", 1);
        T.officeFault("machine m 9 |machine n 9;", 1);
        T.officeFault("machine m 9;|;", 1);
        T.officeFault("|;", 1);
        T.officeFault("|writes m p;", 1);
        T.officeFault("|m 9;", 1);
    }

    private static void inkIs0To999() {
        C.due("INK 0", Checks.told("machine m 0;").machine(0, 0), 0);
        C.due("INK 999", Checks.told("machine m 999;").machine(0, 0), 999);
        T.officeFault("machine m |1000;", 1);
        T.officeFault("machine m|;", 1);
    }

    private static void longIs1To40() {
        C.due("LONG 1", Checks.told("phrase p 1 5;").phrase(0, 0), 1);
        C.due("LONG 40", Checks.told("phrase p 40 5;").phrase(0, 0), 40);
        T.officeFault("phrase p |0 5;", 2);
        T.officeFault("phrase p |41 5;", 2);
        T.officeFault("phrase p |999 5;", 2);
    }

    private static void claimIs0To99() {
        C.due("CLAIM 0", Checks.told("phrase p 5 0;").phrase(0, 1), 0);
        C.due("CLAIM 99", Checks.told("phrase p 5 99;").phrase(0, 1), 99);
        T.officeFault("phrase p 5 |100;", 2);
        T.officeFault("phrase p 5 |999;", 2);
        T.officeFault("phrase p 5|;", 1);
    }

    private static void knowsIsOfAMachineAndAPhrase() {
        String two = "machine m 9; phrase p 1 1; ";
        T.officeHolds(two + "knows m p;", 3);
        T.officeFault(two + "knows |p m;", 3);
        T.officeFault(two + "knows m |m;", 3);
        T.officeFault(two + "knows m|;", 1);
        T.officeFault(two + "knows m p |p;", 1);
        C.due("nobody knows by itself", Checks.told(two).machine(0, 1), 0);
    }

    private static void answersAreOfAlikeOnesToo() {
        KeyLetters x = Checks.told("phrase p 1 1; phrase q 1 1; answers p p; answers q p;");
        C.due("the first one is an ANSWER to the second", x.phrase(0, 2), 3);
        C.due("the second one is none to the first", x.phrase(1, 2), 0);
        C.due("alike ones, too", x.phrase(0, 3), 1);
        C.due("two ANSWERS", x.count(2), 2);
        T.officeFault("machine m 9; phrase p 1 1; answers |m p;", 3);
        T.officeFault("machine m 9; phrase p 1 1; answers p |m;", 3);
    }

    private static void eachTwoOnceOfASort() {
        String some = "machine m 9; machine n 9; phrase p 1 1; phrase q 1 1; ";
        T.officeFault(some + "knows m p; knows m |p;", 3);
        T.officeHolds(some + "knows m p; knows n p; knows m q; knows n q;", 8);
        T.officeFault(some + "answers p q; answers p |q;", 3);
        T.officeFault(some + "answers q q; answers p p; answers q |q;", 3);
        T.officeHolds(some + "answers p q; answers q p; answers p p; answers q q;", 8);
    }

    private static String machines(int n) {
        StringBuilder text = new StringBuilder();
        for (int i = 0; i < n; i++) {
            text.append("machine ").append((char) ('a' + i)).append(" 9;");
        }
        return text.toString();
    }

    private static String phrases(int n) {
        StringBuilder text = new StringBuilder();
        for (int i = 0; i < n; i++) {
            text.append("phrase ").append((char) ('s' + i)).append(" 1 1;");
        }
        return text.toString();
    }

    private static void sixMachinesAtMost() {
        T.officeHolds(machines(6), 6);
        T.officeFault(machines(6) + "|machine g 9;", 4);
        T.officeFault(machines(3) + phrases(8) + machines(6).substring(machines(3).length()) + "|machine g 9;", 4);
    }

    private static void eightPhrasesAtMost() {
        T.officeHolds(phrases(8), 8);
        T.officeFault(phrases(8) + "|phrase r 1 1;", 4);
        T.officeFault(machines(6) + phrases(8) + "|phrase r 1 1;", 4);
    }

    private static void numberedFrom0Each() {
        KeyLetters x = Checks.told("phrase s 1 1; machine a 5; phrase t 2 1; machine b 6;");
        C.due("MACHINE 0", x.machine(0, 0), 5);
        C.due("MACHINE 1", x.machine(1, 0), 6);
        C.due("PHRASE 0", x.phrase(0, 0), 1);
        C.due("PHRASE 1", x.phrase(1, 0), 2);
        C.machineThrows(x, 2, 0);
        C.due("no PHRASE 2", x.phrase(2, 0), NONE);
        KeyLetters full = Checks.told(machines(6) + phrases(8));
        C.due("MACHINE 5", full.machine(5, 0), 9);
        C.machineThrows(full, 6, 0);
        C.due("PHRASE 7", full.phrase(7, 0), 1);
        C.due("no PHRASE 8", full.phrase(8, 0), NONE);
    }

    private static void allThatCanBeTold() {
        StringBuilder knows = new StringBuilder(machines(6)).append(phrases(8));
        for (char m = 'a'; m <= 'f'; m++) {
            for (char p = 's'; p <= 'z'; p++) {
                knows.append("knows ").append(m).append(' ').append(p).append(';');
            }
        }
        KeyLetters x = Checks.told(knows.toString());
        C.due("all of them are known by all", x.machine(0, 1) + x.machine(5, 1), 255 + 255);
        C.due("all know all", x.phrase(0, 4) + x.phrase(7, 4), 63 + 63);
        T.officeFault(knows + "knows f |z;", 3);
        StringBuilder answers = new StringBuilder(phrases(8));
        for (char p = 's'; p <= 'z'; p++) {
            for (char q = 's'; q <= 'z'; q++) {
                answers.append("answers ").append(p).append(' ').append(q).append(';');
            }
        }
        KeyLetters y = Checks.told(answers.toString());
        C.due("64 ANSWERS", y.count(2), 64);
        C.due("all are ANSWERS", y.phrase(0, 2) + y.phrase(7, 2), 255 + 255);
        C.due("all are ANSWERS to all", y.phrase(0, 3) + y.phrase(7, 3), 255 + 255);
        T.officeFault(answers + "answers z |z;", 3);
    }

    // NAMES

    private static void aNameIsNoneOfTheWordsToldHere() {
        for (String word : NO_NAMES) {
            T.officeFault("machine |" + word + " 9;", 1);
            T.officeFault("phrase |" + word + " 9 9;", 1);
            T.officeFault("machine m 9; phrase p 1 1; knows |" + word + " p;", 1);
            T.officeFault("machine m 9; phrase p 1 1; knows m |" + word + ";", 1);
            T.officeFault("phrase p 1 1; answers |" + word + " p;", 1);
            T.officeFault("phrase p 1 1; answers p |" + word + ";", 1);
            T.bookFault("rem writes |" + word + ";", 1);
            T.sentenceFault("able |" + word, 1);
            T.sentenceFault("owes |" + word, 1);
            if (!word.equals("clear") && !word.equals("day")) {
                T.bookFault("|" + word + " sits;", 1);
            }
        }
    }

    private static void wordsLikeThoseAreNames() {
        for (String word : NO_NAMES) {
            T.officeHolds("machine " + word.substring(1) + "x 9; phrase " + word.substring(1) + "y 9 9;", 2);
            T.officeHolds("machine x" + word.substring(0, word.length() - 1) + " 9;", 1);
            T.officeHolds("phrase " + word.substring(0, word.length() - 1) + " 9 9;", 1);
            if (word.length() < 7) {
                T.officeHolds("machine " + word + "s 9;", 1);
            }
        }
        for (String word : "name long claim letter office book a line cond all one sign n".split(" ")) {
            T.officeHolds("machine " + word + " 9;", 1);
        }
    }

    private static void aNameIsToldOnce() {
        T.officeFault("machine m 9; machine |m 8;", 3);
        T.officeFault("machine m 9; phrase |m 8 8;", 3);
        T.officeFault("phrase m 9 9; machine |m 8;", 3);
        T.officeFault("phrase m 9 9; phrase |m 8 8;", 3);
        T.officeFault(machines(5) + "machine |e 9;", 3);
        T.officeFault(phrases(7) + "phrase |y 9 9;", 3);
    }

    private static void namesAreAlikeOnlyAsAWhole() {
        T.officeHolds("machine ab 9; machine abc 9; machine b 9; machine ba 9; machine abcdefg 9; machine abcdefh 9;", 6);
        T.officeFault("machine abcdefg 9; machine |abcdefg 9;", 3);
    }

    // a BOOK

    private static void aBookHasAtMost400Bytes() {
        T.bookHolds(DAY + Checks.spaces(394), NONE);
        T.bookHolds(Checks.spaces(394) + DAY, NONE);
        T.bookHolds(Checks.spaces(400), NONE);
        T.bookFaultAt(DAY + Checks.spaces(395), 400, 1);
        T.bookFaultAt(Checks.spaces(395) + DAY, 400, 1);
        T.bookFaultAt(Checks.spaces(401), 400, 1);
        T.bookFaultAt(DAY + Checks.spaces(934), 400, 1);
    }

    private static void aBookHas40LinesAtMost() {
        T.bookHolds("", NONE);
        T.bookHolds(DAY.repeat(39), NONE);
        T.bookHolds(DAY.repeat(40), NONE);
        T.bookFault(DAY.repeat(40) + "|day 1;", 4);
        KeyLetters x = Checks.told(Checks.OFFICE);
        Checks.book(x, 1, DAY.repeat(40));
        C.due("forty LINES are lived", x.told(1), 40);
        C.due("forty DAYS went by", x.now(0), 40);
        Checks.book(x, 0, "oli sits;oli leaves;".repeat(19) + "oli sits;oli sits;");
        C.due("the fortieth LINE is judged, too", x.told(0) * 100 + x.told(1), 1139);
    }

    private static void aRibbonIs1To999() {
        T.bookHolds("rem ribbon 999;", NONE);
        T.bookHolds("rem ribbon 1;", 0);
        T.bookFault("rem ribbon |0;", 2);
        T.bookFault("rem ribbon |000;", 2);
        T.bookFault("rem ribbon |1000;", 1);
    }

    private static void aDayIs1To60() {
        T.bookHolds("day 1;", NONE);
        T.bookHolds("day 60;", NONE);
        T.bookFault("day |0;", 2);
        T.bookFault("day |61;", 2);
        T.bookFault("day |999;", 2);
    }

    private static void aBookIsOfTheMachinesTold() {
        T.bookHolds("roy sits; roy leaves;", NONE);
        T.bookFault("|tom sits;", 3);
        T.bookFault("|ship sits;", 3);
        T.bookFault("roy writes |roy;", 3);
        T.bookFault("roy writes |tom;", 3);
        KeyLetters x = new KeyLetters();
        C.due("no MACHINES: a NAME not told", Checks.book(x, 0, "rem sits;"), -2);
        C.due("no MACHINES: DAYS all the same", Checks.book(x, 0, DAY), NONE);
    }

    // a SENTENCE

    private static void aSentenceHasAtMost200Bytes() {
        T.sentenceHolds("held" + Checks.spaces(196), 1);
        T.sentenceHolds(Checks.spaces(196) + "held", 1);
        T.sentenceFaultAt("held" + Checks.spaces(197), 200, 1);
        T.sentenceFaultAt(Checks.spaces(197) + "held", 200, 1);
        T.sentenceFaultAt("held" + Checks.spaces(936), 200, 1);
        T.sentenceFaultAt(Checks.spaces(200), 200, 1);
        T.sentenceFaultAt(Checks.spaces(201), 200, 1);
    }

    private static void aSentenceIsOfOneOneAtLeast() {
        T.sentenceHolds("held", 1);
        T.sentenceFault("|", 1);
        T.sentenceFault("(|)", 1);
        T.sentenceFault("not|", 1);
        T.sentenceFault("held or|", 1);
        T.sentenceFault("held and|", 1);
        T.sentenceFault("|or held", 1);
        T.sentenceFault("|and held", 1);
    }

    private static void aSignIsLessAlikeOrGreater() {
        for (String of : new String[] {"ink", "wrote", "number"}) {
            T.sentenceHolds(of + " < 1", 1);
            T.sentenceHolds(of + " = 1", 1);
            T.sentenceHolds(of + " > 1", 1);
            T.sentenceFault(of + " |1", 1);
            T.sentenceFault(of + "|", 1);
            T.sentenceFault(of + " |; 1", 1);
            T.sentenceFault(of + " |( 1", 1);
            T.sentenceFault(of + " |) 1", 1);
            T.sentenceFault(of + " |. 1", 1);
            T.sentenceFault(of + " <|= 1", 1);
            T.sentenceFault(of + " < |rem", 1);
        }
    }

    private static void aNumberOfASentenceIs0To999() {
        T.sentenceHolds("ink = 0 or wrote = 0 or number = 0", 3);
        T.sentenceHolds("ink < 999 or wrote < 999 or number < 999", 3);
        T.sentenceFault("ink < |1000", 1);
        T.sentenceFault("wrote < |1000", 1);
        T.sentenceFault("number < |1000", 1);
    }

    private static void aSentenceHas20Ones() {
        T.sentenceHolds("held or ".repeat(18) + "held", 19);
        T.sentenceHolds("held or ".repeat(19) + "held", 20);
        T.sentenceHolds("held and ".repeat(19) + "held", 20);
        T.sentenceHolds("not held or ".repeat(9) + "not held", 20);
        T.sentenceHolds("(held) or ".repeat(9) + "(held)", 20);
        T.sentenceFault("held or ".repeat(20) + "|held", 4);
        T.sentenceFault("mute and ".repeat(20) + "|mute", 4);
        T.sentenceFault("held or held and ".repeat(10) + "|held", 4);
        T.sentenceFault("(held) or ".repeat(10) + "|(held)", 4);
        T.sentenceFault("not held or ".repeat(10) + "|not held", 4);
        T.sentenceFault("not held or ".repeat(9) + "held or not |held", 4);
    }

    private static void eightOnesWithinOneAnother() {
        T.sentenceHolds("not ".repeat(7) + "held", 8);
        T.sentenceHolds("(".repeat(7) + "held" + ")".repeat(7), 8);
        T.sentenceHolds("not (".repeat(3) + "not held" + ")".repeat(3), 8);
        T.sentenceHolds("(".repeat(7) + "held or held and held" + ")".repeat(7), 10);
        T.sentenceFault("not ".repeat(8) + "|held", 4);
        T.sentenceFault("(".repeat(8) + "|held" + ")".repeat(8), 4);
        KeyLetters x = Checks.told(Checks.OFFICE);
        x.sit(1);
        Checks.sentence(x, "not ".repeat(7) + "held");
        C.due("not held, as seven is odd", x.said(NONE), 2);
        Checks.sentence(x, "(not ".repeat(3) + "held" + ")".repeat(3) + " or latest");
        C.due("not held or latest", x.said(NONE), 2);
    }

    // FAULTS

    private static void theFirstAlongTheText() {
        T.officeFault("phrase p |0 100;", 2);
        T.officeFault("phrase p |41 1; phrase p 1 1; machine", 2);
        T.officeFault("machine m 9; machine |m 1000; ;", 3);
        T.officeFault("machine m |1000; machine m 9;", 1);
        T.officeFault("knows |m p;", 3);
        T.bookFault("rem ribbon |0; tom sits; ;", 2);
        T.bookFault("|tom ribbon 0;", 3);
        T.sentenceFault("able |tom and owes tom and", 3);
        T.sentenceFault("held |; able tom", 1);
    }

    private static void ofOneTokenTheLeast() {
        // a 41st LINE that can't come, or of a NAME not told
        T.bookFault(DAY.repeat(40) + "|;", 1);
        T.bookFault(DAY.repeat(40) + "|sits;", 1);
        T.bookFault(DAY.repeat(40) + "|Rem sits;", 1);
        T.bookFault(DAY.repeat(40) + "|1;", 1);
        T.bookFault(DAY.repeat(40) + "|tom sits;", 3);
        T.bookFault(DAY.repeat(40) + "|ship sits;", 3);
        // a 21st ONE, a ninth within that can't come
        T.sentenceFault("held or ".repeat(20) + "|ship", 1);
        T.sentenceFault("held or ".repeat(20) + "|)", 1);
        T.sentenceFault("held or ".repeat(20) + "|", 1);
        T.sentenceFault("not ".repeat(8) + "|or", 1);
        T.sentenceFault("(".repeat(8) + "|)", 1);
        T.sentenceFault("(".repeat(8) + "|", 1);
    }

    private static void whatIsNoTokenAtIt() {
        T.officeFault("machine m 9; |?", 1);
        T.officeFault("machine m 9; machine |abcdefghi 9;", 1);
        T.officeFault("machine m |12345;", 1);
        T.officeFault("machine m 9; |a1", 1);
        T.bookFault("day 1; rem |SITS;", 1);
        T.bookFault("day 1; |12ab;", 1);
        T.sentenceFault("held or |HELD", 1);
        T.sentenceFault("held |\tor held", 1);
    }

    private static void whatCanNotComeAtIt() {
        T.officeFault("machine m 9; |held;", 1);
        T.officeFault("machine |; m 9;", 1);
        T.officeFault("phrase p 1 |q;", 1);
        T.bookFault("day 1; clear |1;", 1);
        T.bookFault("rem |ship;", 1);
        T.bookFault("rem sits |rem sits;", 1);
        T.sentenceFault("held |held", 1);
        T.sentenceFault("able |7", 1);
        T.sentenceFault("held|;", 1);
    }

    private static void atTheEndHowManyBytesThereAre() {
        T.officeFault("machine|", 1);
        T.officeFault("machine m|", 1);
        T.officeFault("machine m 9|", 1);
        T.officeFault("machine m 9 \n  |", 1);
        T.officeFault("machine m 9;phrase p 1|", 1);
        T.bookFault("rem|", 1);
        T.bookFault("day 1; rem ribbon  |", 1);
        T.bookFault("day 1; clear|", 1);
        T.sentenceFault("\n\n|", 1);
        T.sentenceFault("(held |", 1);
        T.sentenceFault("ink <|", 1);
        T.officeFaultAt(Checks.spaces(893) + "machine", 900, 1);
        T.bookFaultAt(Checks.spaces(395) + "clear", 400, 1);
        T.sentenceFaultAt(Checks.spaces(197) + "not", 200, 1);
    }

    private static void theMostBytesToldIfThereAreMore() {
        T.officeFaultAt("machine m 9;" + Checks.spaces(888) + "?", 900, 1);
        T.officeFaultAt("machine m 9;" + Checks.spaces(888) + "machine m 9;", 900, 1);
        T.officeFaultAt("machine m 9" + Checks.spaces(889) + ";", 900, 1);
        T.bookFaultAt(DAY + Checks.spaces(394) + "?", 400, 1);
        T.bookFaultAt("day 1" + Checks.spaces(395) + ";", 400, 1);
        T.bookFaultAt("rem ribbon" + Checks.spaces(390) + "0;", 400, 1);
        T.sentenceFaultAt("held" + Checks.spaces(196) + "?", 200, 1);
        T.sentenceFaultAt("able" + Checks.spaces(196) + "tom", 200, 1);
        T.sentenceFaultAt("(held" + Checks.spaces(195) + ")", 200, 1);
    }

    private static void noneOfThatIfAFaultIsAhead() {
        T.officeFaultAt("machine m 9;" + Checks.spaces(887) + ";" + Checks.spaces(20), 899, 1);
        T.officeFaultAt("machine m 9; phrase p 0 1;" + Checks.spaces(900), 22, 2);
        T.bookFaultAt("day 0;" + Checks.spaces(500), 4, 2);
        T.bookFaultAt(DAY.repeat(40) + DAY + Checks.spaces(200), 240, 4);
        T.sentenceFaultAt("able tom" + Checks.spaces(300), 5, 3);
        T.sentenceFaultAt("held" + Checks.spaces(195) + "held", 199, 1);
    }

    private static void tokensThatBeginAheadAreReadWhole() {
        String line = "machine m 9;";
        T.officeFaultAt(Checks.spaces(899) + "machine m 9;", 900, 1);
        T.officeFaultAt(Checks.spaces(899) + "machines m 9;", 899, 1);
        T.officeFaultAt(Checks.spaces(899) + "mach m 9;", 899, 1);
        T.officeFaultAt(line + Checks.spaces(879) + "machine m", 899, 3);
        T.officeFaultAt(line + Checks.spaces(879) + "machine mn", 900, 1);
        T.officeFaultAt(Checks.spaces(889) + "machine m 99", 900, 1);
        T.officeFaultAt(Checks.spaces(889) + "machine m 9999", 899, 1);
        T.officeFaultAt(Checks.spaces(890) + "phrase p 40 1;", 900, 1);
        T.officeFaultAt(Checks.spaces(890) + "phrase p 41 1;", 899, 2);
        T.bookFaultAt(Checks.spaces(395) + "day 60;", 400, 1);
        T.bookFaultAt(Checks.spaces(395) + "day 61;", 399, 2);
        T.bookFaultAt(Checks.spaces(399) + "rem sits;", 400, 1);
        T.bookFaultAt(Checks.spaces(399) + "roys sits;", 399, 3);
        T.bookFaultAt(DAY.repeat(40) + Checks.spaces(159) + "clear;", 399, 4);
        T.sentenceFaultAt("not" + Checks.spaces(196) + "held", 200, 1);
        T.sentenceFaultAt("not" + Checks.spaces(196) + "helds", 199, 1);
        T.sentenceFaultAt("able" + Checks.spaces(195) + "bill", 200, 1);
        T.sentenceFaultAt("able" + Checks.spaces(195) + "bills", 199, 3);
    }

    private static void aNumberNotAsToldAtIt() {
        T.officeFault("phrase p |0 1;", 2);
        T.officeFault("phrase p\n |041 1;", 2);
        T.officeFault("phrase p 40 |100;", 2);
        T.bookFault("rem sits; rem ribbon  |0;", 2);
        T.bookFault("day   |61;", 2);
    }

    private static void aNameNotToldOrOfAnotherSort() {
        T.officeFault("knows |m p;", 3);
        T.officeFault("machine m 9; knows m |p;", 3);
        T.officeFault("answers |p p;", 3);
        T.officeFault("phrase p 1 1; answers p |q;", 3);
        T.officeFault("knows |m p; machine m 9; phrase p 1 1;", 3);
        T.officeFault("machine m 9; phrase p 1 1; answers |m p;", 3);
        T.bookFault("rem writes |loves;", 3);
        T.bookFault("rem writes |oli;", 3);
        T.sentenceFault("able |rem", 3);
        T.sentenceFault("able |tom", 3);
        T.sentenceFault("owes |ship", 3);
        T.sentenceFault("owes |tom", 3);
        KeyLetters x = Checks.told(Checks.OFFICE);
        Checks.office(x, "machine tom 9; phrase hate 1 1;");
        C.due("a MACHINE of the OFFICE ahead", Checks.book(x, 0, "rem sits;"), -2);
        C.due("a PHRASE of the OFFICE ahead", Checks.sentence(x, "able ship"), -6);
    }

    private static void toldTogetherAgainAtTheSecond() {
        String some = "machine m 9; phrase p 1 1; phrase q 1 1; ";
        T.officeFault(some + "knows m p; knows m q; knows m |p;", 3);
        T.officeFault(some + "answers q p; answers p q; answers q |p;", 3);
        T.officeFault(some + "answers p p; answers p |p", 3);
    }

    private static void oneMoreThanThereMayBe() {
        T.officeFault(machines(6) + "|machine a 9;", 4);
        T.officeFault(machines(6) + "|machine g 1000;", 4);
        T.officeFault(machines(6) + "|machine", 4);
        T.officeFault(phrases(8) + "|phrase s 1 1;", 4);
        T.officeFault(phrases(8) + "|phrase r 0 100;", 4);
        T.officeFault(phrases(8) + "|phrase", 4);
    }

    private static void a41stLineAtItsFirstWord() {
        T.bookFault(DAY.repeat(40) + "|rem sits;", 4);
        T.bookFault(DAY.repeat(40) + "|clear;", 4);
        T.bookFault(DAY.repeat(40) + "|day 0;", 4);
        T.bookFault(DAY.repeat(40) + "\n|day", 4);
        T.bookFault(DAY.repeat(40) + "|roy", 4);
        T.bookFault(DAY.repeat(39) + "day 1|", 1);
        T.bookFault(DAY.repeat(39) + "day 1|?", 1);
    }

    private static void a21stOneAtItsFirstToken() {
        String twenty = "held or ".repeat(20);
        for (String first : "held latest mute able owes ink wrote number not (".split(" ")) {
            T.sentenceFault(twenty + "|" + first, 4);
        }
        T.sentenceFault("held or ".repeat(19) + "not |held", 4);
        T.sentenceFault("held or ".repeat(19) + "(|held)", 4);
        T.sentenceFault(twenty + "|able tom", 4);
        T.sentenceFault("held or ".repeat(19) + "held and|", 1);
    }

    private static void aNinthWithinAtItsFirstToken() {
        for (String first : "held latest mute able owes ink wrote number not (".split(" ")) {
            T.sentenceFault("not ".repeat(8) + "|" + first, 4);
            T.sentenceFault("(".repeat(8) + "|" + first, 4);
        }
        T.sentenceFault("(not ".repeat(4) + "|held" + ")".repeat(4), 4);
        T.sentenceFault("(((((((held and (|mute))))))))", 4);
        T.sentenceHolds("(".repeat(7) + "held" + ")".repeat(7) + " and " + "not ".repeat(7) + "held", 16);
    }
}
