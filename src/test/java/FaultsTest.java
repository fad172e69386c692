/** Each kind of FAULT at each place where it can be, in OFFICES, BOOKS and SENTENCES (promises 4, 5, 32 and 34). */
public final class FaultsTest {
    private static final String TWO = "machine m 9; phrase p 1 1; ";
    private static final Checks C = new Checks();
    private static final TextChecks T = new TextChecks(C);

    public static void main(String[] args) {
        tokens();
        officeOrder();
        officeNumbers();
        officeNames();
        officeCounts();
        officeLength();
        books();
        bookCounts();
        bookLength();
        sentences();
        sentenceCounts();
        sentenceLength();
        C.end("FaultsTest");
    }

    private static void tokens() {
        T.officeHolds("machine m 9;machine\nn\n9\n;", 2);
        T.officeHolds("  \n \n", 0);
        T.officeHolds("machine m 009;phrase p 01 00;", 2);
        T.officeHolds("machine abcdefg 0;", 1);
        T.officeFault("|Machine m 9;", 1);
        T.officeFault("machine|\tm 9;", 1);
        T.officeFault("machine |abcdefgh 9;", 1);
        T.officeFault("machine |m9;", 1);
        T.officeFault("machine |9m;", 1);
        T.officeFault("machine m |0009;", 1);
        T.officeFault("machine m |-9;", 1);
        T.officeFault("machine m 9|,", 1);
        T.officeFault("machine m 9;|\r", 1);
        T.officeFault("machine m 9;|\u00e9", 1);
        T.officeFault("machine m 9;|\0", 1);
        T.officeFault("|machinem 9;", 1);
    }

    private static void officeOrder() {
        T.officeFault("|;", 1);
        T.officeFault("machine m 9;|;", 1);
        T.officeFault("|9;", 1);
        T.officeFault("|m m 9;", 1);
        T.officeFault("machine m 9; |clear;", 1);
        T.officeFault("machine |9;", 1);
        T.officeFault("machine |;", 1);
        T.officeFault("machine m |m;", 1);
        T.officeFault("machine m |=;", 1);
        T.officeFault("machine m 9 |machine n 9;", 1);
        T.officeFault("machine m 9 |9;", 1);
        T.officeFault("machine m 9|.", 1);
        T.officeFault("phrase p 1|;", 1);
        T.officeFault("phrase p 1 |x;", 1);
        T.officeFault("phrase p 1 1 |(;", 1);
        T.officeFault(TWO + "knows |9 p;", 1);
        T.officeFault(TWO + "knows m|;", 1);
        T.officeFault(TWO + "knows m p |p;", 1);
        T.officeFault(TWO + "answers p |<;", 1);
        T.officeFault("machine m 9|", 1);
        T.officeFault("machine m 9  \n |", 1);
        T.officeFault("machine|", 1);
        T.officeFault(TWO + "answers|", 1);
        for (String word : ("machine phrase knows answers writes sits leaves ribbon clear day or and not held latest mute "
                + "able owes ink wrote number").split(" ")) {
            T.officeFault("machine |" + word + " 9;", 1);
            T.officeFault("phrase |" + word + " 9 9;", 1);
            T.officeFault(TWO + "knows |" + word + " p;", 1);
            T.officeFault(TWO + "answers p |" + word + ";", 1);
        }
    }

    private static void officeNumbers() {
        T.officeHolds("machine m 0; machine n 999; phrase p 1 0; phrase q 40 99;", 4);
        T.officeFault("phrase p |0 1;", 2);
        T.officeFault("phrase p |41 1;", 2);
        T.officeFault("phrase p |999 1;", 2);
        T.officeFault("phrase p 40 |100;", 2);
    }

    private static void officeNames() {
        T.officeFault("machine m 9; machine |m 9;", 3);
        T.officeFault("machine m 9; phrase |m 9 9;", 3);
        T.officeFault("phrase p 9 9; machine |p 9;", 3);
        T.officeFault("phrase p 9 9; phrase |p 0 9;", 3);
        T.officeFault("knows |m p;", 3);
        T.officeFault("machine m 9; knows m |p;", 3);
        T.officeFault(TWO + "knows |p m;", 3);
        T.officeFault(TWO + "knows m |m;", 3);
        T.officeFault(TWO + "knows m p; knows m |p;", 3);
        T.officeFault("knows |m p; " + TWO, 3);
        T.officeFault("answers |p p;", 3);
        T.officeFault(TWO + "answers |m p;", 3);
        T.officeFault(TWO + "answers p |m;", 3);
        T.officeFault(TWO + "answers p p; answers p |p;", 3);
        T.officeHolds(TWO + "phrase q 1 1; knows m p; knows m q; answers p q; answers q p; answers p p;", 8);
        T.officeFault(TWO + "phrase q 1 1; answers p q; answers q p; answers p |q;", 3);
        T.officeFault("machine ab 9; machine |ab 9;", 3);
        T.officeHolds("machine ab 9; machine abc 9; machine b 9; machine ba 9;", 4);
    }

    private static void officeCounts() {
        StringBuilder machines = new StringBuilder();
        for (char m = 'a'; m <= 'f'; m++) {
            machines.append("machine ").append(m).append(" 9;");
        }
        StringBuilder phrases = new StringBuilder();
        for (char p = 's'; p <= 'z'; p++) {
            phrases.append("phrase ").append(p).append(" 1 1;");
        }
        T.officeHolds(machines.toString() + phrases, 14);
        T.officeFault(machines + "|machine a 9;", 4);
        T.officeFault(machines + "|machine;", 4);
        T.officeFault(machines + " |machine", 4);
        T.officeFault(phrases + "|phrase p 0 9;", 4);
        T.officeFault(machines.toString() + phrases + "|phrase q 1 1;", 4);
        T.officeFault(machines.toString() + phrases + "|machine q 1;", 4);
        T.officeFault(machines + "|machin q 1;", 1);
    }

    private static void officeLength() {
        String line = "machine m 9;";
        T.officeHolds(line + Checks.spaces(888), 1);
        T.officeHolds(Checks.spaces(900), 0);
        T.officeFaultAt(Checks.spaces(901), 900, 1);
        T.officeFaultAt(line + Checks.spaces(889), 900, 1);
        T.officeFaultAt(line + Checks.spaces(928), 900, 1);
        T.officeFaultAt(line + Checks.spaces(887) + ".", 899, 1);
        T.officeFaultAt(line + Checks.spaces(888) + ".", 900, 1);
        T.officeFaultAt(line + Checks.spaces(887) + "..", 899, 1);
        // a TOKEN that begins ahead of the bound is read whole
        T.officeFaultAt(Checks.spaces(891) + line, 900, 1);
        T.officeFaultAt(Checks.spaces(896) + "machine", 900, 1);
        T.officeFaultAt(Checks.spaces(896) + "machinery", 896, 1);
        T.officeFaultAt(Checks.spaces(896) + "phrased", 896, 1);
        T.officeFaultAt(line + Checks.spaces(879) + "machine m", 899, 3);
        T.officeFaultAt(line + Checks.spaces(879) + "machine mm", 900, 1);
        T.officeFaultAt(line + Checks.spaces(879) + "machine ink", 899, 1);
        T.officeFaultAt(line + Checks.spaces(880) + "machine m", 900, 1);
        T.officeFaultAt(Checks.spaces(890) + "machine m999", 898, 1);
        T.officeFaultAt(Checks.spaces(889) + "machine m 999", 900, 1);
        T.officeFaultAt(Checks.spaces(889) + "machine m 9999", 899, 1);
        T.officeFaultAt(Checks.spaces(890) + "phrase p 999", 899, 2);
    }

    private static void books() {
        T.bookHolds("", -1);
        T.bookHolds("day 1;", -1);
        T.bookHolds("day 60; day 060;", -1);
        T.bookHolds("rem ribbon 999;", -1);
        T.bookHolds("clear;", 0);
        T.bookHolds("rem leaves;", 0);
        T.bookFault("|;", 1);
        T.bookFault("|9;", 1);
        T.bookFault("|writes;", 1);
        T.bookFault("|machine;", 1);
        T.bookFault("|tom sits;", 3);
        T.bookFault("|ship sits;", 3);
        T.bookFault("rem |;", 1);
        T.bookFault("rem |clear;", 1);
        T.bookFault("rem |day 1;", 1);
        T.bookFault("rem |9;", 1);
        T.bookFault("rem |ship;", 1);
        T.bookFault("rem writes |;", 1);
        T.bookFault("rem writes |9;", 1);
        T.bookFault("rem writes |held;", 1);
        T.bookFault("rem writes |rem;", 3);
        T.bookFault("rem writes |tom;", 3);
        T.bookFault("rem writes ship |ship;", 1);
        T.bookFault("rem sits |rem;", 1);
        T.bookFault("rem ribbon |0;", 2);
        T.bookFault("rem ribbon |ship;", 1);
        T.bookFault("rem ribbon |1000;", 1);
        T.bookFault("clear |1;", 1);
        T.bookFault("day |0;", 2);
        T.bookFault("day |61;", 2);
        T.bookFault("day |;", 1);
        T.bookFault("day |one;", 1);
        T.bookFault("day 1|", 1);
        T.bookFault("day 1 \n|", 1);
        T.bookFault("rem sits; rem sits; |Rem sits;", 1);
        T.bookFault("rem sits; rem sits; oli |", 1);
    }

    private static void bookCounts() {
        T.bookHolds("day 1;".repeat(40), -1);
        T.bookFault("day 1;".repeat(40) + "|day 1;", 4);
        T.bookFault("day 1;".repeat(40) + "|day 99;", 4);
        T.bookFault("day 1;".repeat(40) + "|clear", 4);
        T.bookFault("day 1;".repeat(40) + "|rem mute;", 4);
        T.bookFault("day 1;".repeat(40) + "|tom sits;", 3);
        T.bookFault("day 1;".repeat(40) + "|;", 1);
        T.bookFault("day 1;".repeat(40) + "|sits;", 1);
    }

    private static void bookLength() {
        T.bookHolds("day 1;" + Checks.spaces(394), -1);
        T.bookFaultAt("day 1;" + Checks.spaces(395), 400, 1);
        T.bookFaultAt("day 1;" + Checks.spaces(394) + "day 1;", 400, 1);
        T.bookFaultAt("day 1;" + Checks.spaces(393) + "day 1;", 400, 1);
        T.bookFaultAt("day 1;" + Checks.spaces(393) + "ship sits;", 399, 3);
        T.bookFaultAt("day 1;" + Checks.spaces(389) + "day 61;", 399, 2);
        T.bookFaultAt("day 1;" + Checks.spaces(389) + "day 60;", 400, 1);
    }

    private static void sentences() {
        T.sentenceHolds("held", 1);
        T.sentenceHolds("\nnot(held)", 3);
        T.sentenceHolds("ink<0", 1);
        T.sentenceHolds("wrote = 999 or number > 007 and mute", 3);
        T.sentenceHolds("able ship or owes rem or latest", 3);
        T.sentenceFault("|", 1);
        T.sentenceFault("  |", 1);
        T.sentenceFault("|ship", 1);
        T.sentenceFault("|and held", 1);
        T.sentenceFault("|;", 1);
        T.sentenceFault("|)", 1);
        T.sentenceFault("|9", 1);
        T.sentenceFault("|Held", 1);
        T.sentenceFault("held |;", 1);
        T.sentenceFault("held |held", 1);
        T.sentenceFault("held |)", 1);
        T.sentenceFault("held |not", 1);
        T.sentenceFault("held and|", 1);
        T.sentenceFault("held and |and", 1);
        T.sentenceFault("held or |or held", 1);
        T.sentenceFault("not|", 1);
        T.sentenceFault("not |and", 1);
        T.sentenceFault("(|", 1);
        T.sentenceFault("(|)", 1);
        T.sentenceFault("(held|", 1);
        T.sentenceFault("(held |;", 1);
        T.sentenceFault("(held|(", 1);
        T.sentenceFault("(held))".replace("))", ")|)"), 1);
        T.sentenceFault("able|", 1);
        T.sentenceFault("able |9", 1);
        T.sentenceFault("able |held", 1);
        T.sentenceFault("able |tom", 3);
        T.sentenceFault("able |rem", 3);
        T.sentenceFault("owes |ship", 3);
        T.sentenceFault("owes |tom", 3);
        T.sentenceFault("owes |=", 1);
        T.sentenceFault("ink |9", 1);
        T.sentenceFault("ink |;", 1);
        T.sentenceFault("ink |(", 1);
        T.sentenceFault("ink |. 9", 1);
        T.sentenceFault("ink < |= 9", 1);
        T.sentenceFault("wrote > |rem", 1);
        T.sentenceFault("number =|", 1);
        T.sentenceFault("number = |1000", 1);
        T.sentenceFault("|ink9", 1);
    }

    private static void sentenceCounts() {
        String nineteen = "mute or ".repeat(19);
        T.sentenceHolds(nineteen + "held", 20);
        T.sentenceHolds("mute or ".repeat(18) + "not held", 20);
        T.sentenceFault("mute or ".repeat(20) + "|held", 4);
        T.sentenceFault(nineteen + "not |held", 4);
        T.sentenceFault(nineteen + "(|held)", 4);
        T.sentenceFault(nineteen + "(|able tom)", 4);
        T.sentenceFault(nineteen + "held or |ship", 1);
        T.sentenceFault(nineteen + "held or|", 1);
        T.sentenceHolds("not not not not not not not held", 8);
        T.sentenceFault("not not not not not not not not |held", 4);
        T.sentenceFault("not not not not not not not not |not held", 4);
        T.sentenceFault("not not not not not not not not |and", 1);
        T.sentenceFault("not not not not not not not not|", 1);
        T.sentenceHolds("(((((((held)))))))", 8);
        T.sentenceFault("((((((((|held))))))))", 4);
        T.sentenceFault("((((((((|(held)))))))))", 4);
        T.sentenceFault("((((((((|)", 1);
        T.sentenceFault("(((((((held and (|mute))))))))", 4);
        T.sentenceHolds("(((((((held and mute or latest)))))))", 10);
        T.sentenceHolds("(not (not (not (mute and held or ink > 3))))", 10);
        T.sentenceHolds("(((((((held))))))) and (((((((held)))))))", 16);
    }

    private static void sentenceLength() {
        T.sentenceHolds("held" + Checks.spaces(196), 1);
        T.sentenceFaultAt("held" + Checks.spaces(197), 200, 1);
        T.sentenceFaultAt("held" + Checks.spaces(196) + "and held", 200, 1);
        T.sentenceFaultAt("held" + Checks.spaces(195) + "held", 199, 1);
        T.sentenceFaultAt(Checks.spaces(197) + "held", 200, 1);
        T.sentenceFaultAt(Checks.spaces(197) + "heldheld", 197, 1);
        T.sentenceFaultAt("held or" + Checks.spaces(192) + "ship", 199, 1);
        T.sentenceFaultAt("held or" + Checks.spaces(187) + "able ships", 199, 3);
        T.sentenceFaultAt("held or" + Checks.spaces(187) + "able ship", 200, 1);
    }
}
