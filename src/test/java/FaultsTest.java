/** Each kind of FAULT at each place where it can be, in OFFICES, BOOKS and SENTENCES (promises 4, 5, 32 and 34). */
public final class FaultsTest {
    private static final String TWO = "machine m 9; phrase p 1 1; ";
    private static final Checks C = new Checks();

    public static void main(String[] args) {
        tokens();
        officeOrder();
        officeNumbers();
        officeNames();
        officeCounts();
        officeLength();
        books();
        bookCounts();
        bookLength();
        sentences();
        sentenceCounts();
        sentenceLength();
        C.end("FaultsTest");
    }

    /** The OFFICE has this FAULT where '|' stands in it (which is no byte of it). */
    private static void office(String marked, int kind) {
        officeAt(marked.replace("|", ""), marked.indexOf('|'), kind);
    }

    private static void officeAt(String text, int place, int kind) {
        KeyLetters x = Checks.told(Checks.OFFICE);
        C.due("office: " + text, Checks.office(x, text), -1 - place);
        C.due("fault of office: " + text, x.fault(), kind);
        C.due("the OFFICE stays: " + text, x.count(0), 3);
    }

    private static void officeHolds(String text, int lines) {
        KeyLetters x = new KeyLetters();
        C.due("office: " + text, Checks.office(x, text), lines);
        C.due("no fault of office: " + text, x.fault(), 0);
    }

    private static void book(String marked, int kind) {
        bookAt(marked.replace("|", ""), marked.indexOf('|'), kind);
    }

    private static void bookAt(String text, int place, int kind) {
        KeyLetters x = Checks.told(Checks.OFFICE);
        C.due("book: " + text, Checks.book(x, 1, text), -2 - place);
        C.due("fault of book: " + text, x.fault(), kind);
        C.due("nothing is lived: " + text, x.undo(), KeyLetters.NONE);
    }

    private static void bookHolds(String text, int answer) {
        KeyLetters x = Checks.told(Checks.OFFICE);
        C.due("book: " + text, Checks.book(x, 0, text), answer);
        C.due("no fault of book: " + text, x.fault(), 0);
    }

    private static void sentence(String marked, int kind) {
        sentenceAt(marked.replace("|", ""), marked.indexOf('|'), kind);
    }

    private static void sentenceAt(String text, int place, int kind) {
        KeyLetters x = Checks.told(Checks.OFFICE);
        C.due("sentence: " + text, Checks.sentence(x, text), -1 - place);
        C.due("fault of sentence: " + text, x.fault(), kind);
        C.due("no SENTENCE: " + text, x.said(-1), KeyLetters.NONE);
    }

    private static void sentenceHolds(String text, int ones) {
        KeyLetters x = Checks.told(Checks.OFFICE);
        C.due("sentence: " + text, Checks.sentence(x, text), ones);
        C.due("no fault of sentence: " + text, x.fault(), 0);
    }

    private static void tokens() {
        officeHolds("machine m 9;machine\nn\n9\n;", 2);
        officeHolds("  \n \n", 0);
        officeHolds("machine m 009;phrase p 01 00;", 2);
        officeHolds("machine abcdefg 0;", 1);
        office("|Machine m 9;", 1);
        office("machine|\tm 9;", 1);
        office("machine |abcdefgh 9;", 1);
        office("machine |m9;", 1);
        office("machine |9m;", 1);
        office("machine m |0009;", 1);
        office("machine m |-9;", 1);
        office("machine m 9|,", 1);
        office("machine m 9;|\r", 1);
        office("machine m 9;|\u00e9", 1);
        office("machine m 9;|\0", 1);
        office("|machinem 9;", 1);
    }

    private static void officeOrder() {
        office("|;", 1);
        office("machine m 9;|;", 1);
        office("|9;", 1);
        office("|m m 9;", 1);
        office("machine m 9; |clear;", 1);
        office("machine |9;", 1);
        office("machine |;", 1);
        office("machine m |m;", 1);
        office("machine m |=;", 1);
        office("machine m 9 |machine n 9;", 1);
        office("machine m 9 |9;", 1);
        office("machine m 9|.", 1);
        office("phrase p 1|;", 1);
        office("phrase p 1 |x;", 1);
        office("phrase p 1 1 |(;", 1);
        office(TWO + "knows |9 p;", 1);
        office(TWO + "knows m|;", 1);
        office(TWO + "knows m p |p;", 1);
        office(TWO + "answers p |<;", 1);
        office("machine m 9|", 1);
        office("machine m 9  \n |", 1);
        office("machine|", 1);
        office(TWO + "answers|", 1);
        for (String word : ("machine phrase knows answers writes sits leaves ribbon clear day or and not held latest mute "
                + "able owes ink wrote number").split(" ")) {
            office("machine |" + word + " 9;", 1);
            office("phrase |" + word + " 9 9;", 1);
            office(TWO + "knows |" + word + " p;", 1);
            office(TWO + "answers p |" + word + ";", 1);
        }
    }

    private static void officeNumbers() {
        officeHolds("machine m 0; machine n 999; phrase p 1 0; phrase q 40 99;", 4);
        office("phrase p |0 1;", 2);
        office("phrase p |41 1;", 2);
        office("phrase p |999 1;", 2);
        office("phrase p 40 |100;", 2);
    }

    private static void officeNames() {
        office("machine m 9; machine |m 9;", 3);
        office("machine m 9; phrase |m 9 9;", 3);
        office("phrase p 9 9; machine |p 9;", 3);
        office("phrase p 9 9; phrase |p 0 9;", 3);
        office("knows |m p;", 3);
        office("machine m 9; knows m |p;", 3);
        office(TWO + "knows |p m;", 3);
        office(TWO + "knows m |m;", 3);
        office(TWO + "knows m p; knows m |p;", 3);
        office("knows |m p; " + TWO, 3);
        office("answers |p p;", 3);
        office(TWO + "answers |m p;", 3);
        office(TWO + "answers p |m;", 3);
        office(TWO + "answers p p; answers p |p;", 3);
        officeHolds(TWO + "phrase q 1 1; knows m p; knows m q; answers p q; answers q p; answers p p;", 8);
        office(TWO + "phrase q 1 1; answers p q; answers q p; answers p |q;", 3);
        office("machine ab 9; machine |ab 9;", 3);
        officeHolds("machine ab 9; machine abc 9; machine b 9; machine ba 9;", 4);
    }

    private static void officeCounts() {
        StringBuilder machines = new StringBuilder();
        for (char m = 'a'; m <= 'f'; m++) {
            machines.append("machine ").append(m).append(" 9;");
        }
        StringBuilder phrases = new StringBuilder();
        for (char p = 's'; p <= 'z'; p++) {
            phrases.append("phrase ").append(p).append(" 1 1;");
        }
        officeHolds(machines.toString() + phrases, 14);
        office(machines + "|machine a 9;", 4);
        office(machines + "|machine;", 4);
        office(machines + " |machine", 4);
        office(phrases + "|phrase p 0 9;", 4);
        office(machines.toString() + phrases + "|phrase q 1 1;", 4);
        office(machines.toString() + phrases + "|machine q 1;", 4);
        office(machines + "|machin q 1;", 1);
    }

    private static void officeLength() {
        String line = "machine m 9;";
        officeHolds(line + Checks.spaces(888), 1);
        officeHolds(Checks.spaces(900), 0);
        officeAt(Checks.spaces(901), 900, 1);
        officeAt(line + Checks.spaces(889), 900, 1);
        officeAt(line + Checks.spaces(928), 900, 1);
        officeAt(line + Checks.spaces(887) + ".", 899, 1);
        officeAt(line + Checks.spaces(888) + ".", 900, 1);
        officeAt(line + Checks.spaces(887) + "..", 899, 1);
        // a TOKEN that begins ahead of the bound is read whole
        officeAt(Checks.spaces(891) + line, 900, 1);
        officeAt(Checks.spaces(896) + "machine", 900, 1);
        officeAt(Checks.spaces(896) + "machinery", 896, 1);
        officeAt(Checks.spaces(896) + "phrased", 896, 1);
        officeAt(line + Checks.spaces(879) + "machine m", 899, 3);
        officeAt(line + Checks.spaces(879) + "machine mm", 900, 1);
        officeAt(line + Checks.spaces(879) + "machine ink", 899, 1);
        officeAt(line + Checks.spaces(880) + "machine m", 900, 1);
        officeAt(Checks.spaces(890) + "machine m999", 898, 1);
        officeAt(Checks.spaces(889) + "machine m 999", 900, 1);
        officeAt(Checks.spaces(889) + "machine m 9999", 899, 1);
        officeAt(Checks.spaces(890) + "phrase p 999", 899, 2);
    }

    private static void books() {
        bookHolds("", -1);
        bookHolds("day 1;", -1);
        bookHolds("day 60; day 060;", -1);
        bookHolds("rem ribbon 999;", -1);
        bookHolds("clear;", 0);
        bookHolds("rem leaves;", 0);
        book("|;", 1);
        book("|9;", 1);
        book("|writes;", 1);
        book("|machine;", 1);
        book("|tom sits;", 3);
        book("|ship sits;", 3);
        book("rem |;", 1);
        book("rem |clear;", 1);
        book("rem |day 1;", 1);
        book("rem |9;", 1);
        book("rem |ship;", 1);
        book("rem writes |;", 1);
        book("rem writes |9;", 1);
        book("rem writes |held;", 1);
        book("rem writes |rem;", 3);
        book("rem writes |tom;", 3);
        book("rem writes ship |ship;", 1);
        book("rem sits |rem;", 1);
        book("rem ribbon |0;", 2);
        book("rem ribbon |ship;", 1);
        book("rem ribbon |1000;", 1);
        book("clear |1;", 1);
        book("day |0;", 2);
        book("day |61;", 2);
        book("day |;", 1);
        book("day |one;", 1);
        book("day 1|", 1);
        book("day 1 \n|", 1);
        book("rem sits; rem sits; |Rem sits;", 1);
        book("rem sits; rem sits; oli |", 1);
    }

    private static void bookCounts() {
        bookHolds("day 1;".repeat(40), -1);
        book("day 1;".repeat(40) + "|day 1;", 4);
        book("day 1;".repeat(40) + "|day 99;", 4);
        book("day 1;".repeat(40) + "|clear", 4);
        book("day 1;".repeat(40) + "|rem mute;", 4);
        book("day 1;".repeat(40) + "|tom sits;", 3);
        book("day 1;".repeat(40) + "|;", 1);
        book("day 1;".repeat(40) + "|sits;", 1);
    }

    private static void bookLength() {
        bookHolds("day 1;" + Checks.spaces(394), -1);
        bookAt("day 1;" + Checks.spaces(395), 400, 1);
        bookAt("day 1;" + Checks.spaces(394) + "day 1;", 400, 1);
        bookAt("day 1;" + Checks.spaces(393) + "day 1;", 400, 1);
        bookAt("day 1;" + Checks.spaces(393) + "ship sits;", 399, 3);
        bookAt("day 1;" + Checks.spaces(389) + "day 61;", 399, 2);
        bookAt("day 1;" + Checks.spaces(389) + "day 60;", 400, 1);
    }

    private static void sentences() {
        sentenceHolds("held", 1);
        sentenceHolds("\nnot(held)", 3);
        sentenceHolds("ink<0", 1);
        sentenceHolds("wrote = 999 or number > 007 and mute", 3);
        sentenceHolds("able ship or owes rem or latest", 3);
        sentence("|", 1);
        sentence("  |", 1);
        sentence("|ship", 1);
        sentence("|and held", 1);
        sentence("|;", 1);
        sentence("|)", 1);
        sentence("|9", 1);
        sentence("|Held", 1);
        sentence("held |;", 1);
        sentence("held |held", 1);
        sentence("held |)", 1);
        sentence("held |not", 1);
        sentence("held and|", 1);
        sentence("held and |and", 1);
        sentence("held or |or held", 1);
        sentence("not|", 1);
        sentence("not |and", 1);
        sentence("(|", 1);
        sentence("(|)", 1);
        sentence("(held|", 1);
        sentence("(held |;", 1);
        sentence("(held|(", 1);
        sentence("(held))".replace("))", ")|)"), 1);
        sentence("able|", 1);
        sentence("able |9", 1);
        sentence("able |held", 1);
        sentence("able |tom", 3);
        sentence("able |rem", 3);
        sentence("owes |ship", 3);
        sentence("owes |tom", 3);
        sentence("owes |=", 1);
        sentence("ink |9", 1);
        sentence("ink |;", 1);
        sentence("ink |(", 1);
        sentence("ink |. 9", 1);
        sentence("ink < |= 9", 1);
        sentence("wrote > |rem", 1);
        sentence("number =|", 1);
        sentence("number = |1000", 1);
        sentence("|ink9", 1);
    }

    private static void sentenceCounts() {
        String nineteen = "mute or ".repeat(19);
        sentenceHolds(nineteen + "held", 20);
        sentenceHolds("mute or ".repeat(18) + "not held", 20);
        sentence("mute or ".repeat(20) + "|held", 4);
        sentence(nineteen + "not |held", 4);
        sentence(nineteen + "(|held)", 4);
        sentence(nineteen + "(|able tom)", 4);
        sentence(nineteen + "held or |ship", 1);
        sentence(nineteen + "held or|", 1);
        sentenceHolds("not not not not not not not held", 8);
        sentence("not not not not not not not not |held", 4);
        sentence("not not not not not not not not |not held", 4);
        sentence("not not not not not not not not |and", 1);
        sentence("not not not not not not not not|", 1);
        sentenceHolds("(((((((held)))))))", 8);
        sentence("((((((((|held))))))))", 4);
        sentence("((((((((|(held)))))))))", 4);
        sentence("((((((((|)", 1);
        sentence("(((((((held and (|mute))))))))", 4);
        sentenceHolds("(((((((held and mute or latest)))))))", 10);
        sentenceHolds("(not (not (not (mute and held or ink > 3))))", 10);
        sentenceHolds("(((((((held))))))) and (((((((held)))))))", 16);
    }

    private static void sentenceLength() {
        sentenceHolds("held" + Checks.spaces(196), 1);
        sentenceAt("held" + Checks.spaces(197), 200, 1);
        sentenceAt("held" + Checks.spaces(196) + "and held", 200, 1);
        sentenceAt("held" + Checks.spaces(195) + "held", 199, 1);
        sentenceAt(Checks.spaces(197) + "held", 200, 1);
        sentenceAt(Checks.spaces(197) + "heldheld", 197, 1);
        sentenceAt("held or" + Checks.spaces(192) + "ship", 199, 1);
        sentenceAt("held or" + Checks.spaces(187) + "able ships", 199, 3);
        sentenceAt("held or" + Checks.spaces(187) + "able ship", 200, 1);
    }
}
