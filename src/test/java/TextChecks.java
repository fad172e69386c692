/**
 * What the tests of texts share. In a marked text '|', which is no byte of it, stands where its FAULT is due. BOOKS and
 * SENTENCES are told in the OFFICE of Checks.
 */
final class TextChecks {
    private final Checks c;

    TextChecks(Checks c) {
        this.c = c;
    }

    void officeFault(String marked, int kind) {
        officeFaultAt(bytesOf(marked), marked.indexOf('|'), kind);
    }

    void officeFaultAt(String text, int place, int kind) {
        KeyLetters x = Checks.told(Checks.OFFICE);
        c.due("office: " + text, Checks.office(x, text), -1 - place);
        c.due("fault of office: " + text, x.fault(), kind);
        c.due("the OFFICE stays: " + text, x.count(0), 3);
    }

    void officeHolds(String text, int lines) {
        KeyLetters x = new KeyLetters();
        c.due("office: " + text, Checks.office(x, text), lines);
        c.due("no fault of office: " + text, x.fault(), 0);
    }

    void bookFault(String marked, int kind) {
        bookFaultAt(bytesOf(marked), marked.indexOf('|'), kind);
    }

    void bookFaultAt(String text, int place, int kind) {
        KeyLetters x = Checks.told(Checks.OFFICE);
        c.due("book: " + text, Checks.book(x, 1, text), -2 - place);
        c.due("fault of book: " + text, x.fault(), kind);
        c.due("nothing is lived: " + text, x.undo(), KeyLetters.NONE);
    }

    /** The BOOK has no FAULT, and its judgement is this answer. */
    void bookHolds(String text, int answer) {
        KeyLetters x = Checks.told(Checks.OFFICE);
        c.due("book: " + text, Checks.book(x, 0, text), answer);
        c.due("no fault of book: " + text, x.fault(), 0);
    }

    void sentenceFault(String marked, int kind) {
        sentenceFaultAt(bytesOf(marked), marked.indexOf('|'), kind);
    }

    void sentenceFaultAt(String text, int place, int kind) {
        KeyLetters x = Checks.told(Checks.OFFICE);
        c.due("sentence: " + text, Checks.sentence(x, text), -1 - place);
        c.due("fault of sentence: " + text, x.fault(), kind);
        c.due("no SENTENCE: " + text, x.said(KeyLetters.NONE), KeyLetters.NONE);
    }

    void sentenceHolds(String text, int ones) {
        KeyLetters x = Checks.told(Checks.OFFICE);
        c.due("sentence: " + text, Checks.sentence(x, text), ones);
        c.due("no fault of sentence: " + text, x.fault(), 0);
    }

    private static String bytesOf(String marked) {
        return marked.replace("|", "");
    }
}
