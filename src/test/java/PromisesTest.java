/** For each promise of the document what it asks in ordinary use, at the edges that it names, and of wrong inputs. */
public final class PromisesTest {
    private static final int NONE = KeyLetters.NONE;
    private static final int LEAST = Integer.MIN_VALUE;
    private static final int GREATEST = Integer.MAX_VALUE;
    /** Two MACHINES that answer each other with the one PHRASE that there is. */
    private static final String PAIR = "machine a 99; machine b 99; phrase x 5 7; knows a x; knows b x; answers x x;";

    private static final Checks C = new Checks();

    public static void main(String[] args) {
        promise1NewObject();
        promise2Feed();
        promise3End();
        promise4Office();
        promise5Fault();
        promise6Machine();
        promise7Phrase();
        promise8Owes();
        promise9Now();
        promise10Write();
        promise11Sit();
        promise12Leave();
        promise13Ribbon();
        promise14Clear();
        promise15Days();
        promise16Undo();
        promise17Comes();
        promise18ComesAt();
        promise19Silent();
        promise20Ways();
        promise21WaysAt();
        promise22Ask();
        promise23Lacks();
        promise24Faint();
        promise25Look();
        promise26Ship();
        promise27Part();
        promise28Line();
        promise29ByteAt();
        promise30Drawn();
        promise31Odds();
        promise32Book();
        promise33Told();
        promise34Sentence();
        promise35Said();
        promise36Image();
        promise37Restore();
        promise38Count();
        C.end("PromisesTest");
    }

    private static void promise1NewObject() {
        KeyLetters x = new KeyLetters();
        C.due("1: MACHINES", x.count(0), 0);
        C.due("1: PHRASES", x.count(1), 0);
        C.due("1: ANSWERS", x.count(2), 0);
        C.due("1: bytes of the tape", x.count(3), 0);
        C.due("1: DAY", x.now(0), 0);
        C.due("1: LATEST", x.now(1), NONE);
        C.due("1: who wrote it", x.now(2), NONE);
        C.due("1: fault", x.fault(), 0);
        C.due("1: said", x.said(-1), NONE);
        C.due("1: undo", x.undo(), NONE);
        KeyLetters other = Checks.told(Checks.OFFICE);
        C.due("1: one object is not another one", x.count(0) == 0 && other.count(0) == 3, true);
    }

    private static void promise2Feed() {
        KeyLetters x = new KeyLetters();
        C.due("2: the first twenty", x.feed(0x0c0a0000, 0, 0, 0, 0), 20);
        x.end(2);
        C.due("2: the highest byte first", x.ship(), 60);
        // the bytes of each of the five numbers, read as a LINE's NAME and the blanks behind it
        C.due("2: five numbers", x.feed(0x70687261, 0x73652061, 0x62202037, 0x20203820, 0x203b2020), 20);
        C.due("2: one LINE", x.office(), 1);
        C.due("2: LONG", x.phrase(0, 0), 7);
        for (int i = 1; i <= 47; i++) {
            C.due("2: feed " + i, x.feed(-1, GREATEST, LEAST, 0, 1), 20 * i);
        }
        C.due("2: one more", x.feed(0, 0, 0, 0, 0), NONE);
        C.due("2: none came", x.count(3), 940);
        x.end(921);
        C.due("2: 941", x.feed(0, 0, 0, 0, 0), NONE);
        x.end(920);
        C.due("2: 940", x.feed(0, 0, 0, 0, 0), 940);
        x.end(1);
        C.due("2: behind the first", x.feed(0, 0, 0, 0, 0), 21);
    }

    private static void promise3End() {
        KeyLetters x = new KeyLetters();
        C.due("3: nothing of nothing", x.end(0), true);
        C.due("3: one of nothing", x.end(1), false);
        Checks.feed(x, "love");
        x.feed(0, 0, 0, 0, 0);
        C.due("3: below 0", x.end(-1), false);
        C.due("3: far below 0", x.end(LEAST), false);
        C.due("3: one too many", x.end(25), false);
        C.due("3: far too many", x.end(GREATEST), false);
        C.due("3: it stays", x.count(3), 24);
        C.due("3: all", x.end(24), true);
        C.due("3: some", x.end(3), true);
        C.due("3: so many", x.count(3), 3);
        C.due("3: no longer so many", x.end(4), false);
        C.due("3: none", x.end(0), true);
        C.due("3: no bytes", x.count(3), 0);
        bytesBehindTheEndAreNoMatter();
    }

    /** The tape has its first bytes alone, whatever it had behind them. */
    private static void bytesBehindTheEndAreNoMatter() {
        KeyLetters x = Checks.told(Checks.OFFICE);
        feedAndEnd(x, "\0\1\2\u00ff\u00ff", 3);
        C.due("3: WAYS of three", x.ways(), 3);
        feedAndEnd(x, "\0\1\2\u00ff\u00ff", 3);
        C.due("3: LACKS of three", x.lacks(), 0);
        feedAndEnd(x, "\4\6\0", 2);
        C.due("3: SHIP of two", x.ship(), 12);
        feedAndEnd(x, "loveX", 4);
        C.due("3: FAINT of four", x.faint(), 4);
        feedAndEnd(x, "heldby", 4);
        C.due("3: a WORD of four letters", x.sentence(), 1);
        feedAndEnd(x, "ink > 399", 7);
        C.due("3: a NUMBER of one digit", x.sentence() * 100 + x.said(NONE), 103);
        feedAndEnd(x, "day 1;day 400;", 6);
        C.due("3: a BOOK of one LINE", x.book(0) * 10 + x.told(1), 10 * NONE + 1);
        feedAndEnd(x, "machine m 9;;", 12);
        C.due("3: an OFFICE of one LINE", x.office(), 1);
        feedAndEnd(x, "machine m 9;", 11);
        C.due("3: an OFFICE whose LINE is cut off", x.office(), -12);
        feedAndEnd(x, "phrase m 9 9;", 0);
        C.due("3: an OFFICE of no bytes", x.office(), 0);
    }

    private static void feedAndEnd(KeyLetters x, String text, int bytes) {
        Checks.feed(x, text);
        x.end(bytes);
    }

    private static void promise4Office() {
        KeyLetters x = new KeyLetters();
        C.due("4: an empty one", x.office(), 0);
        C.due("4: LINES", Checks.office(x, Checks.OFFICE), 15);
        C.due("4: the tape is empty", x.count(3), 0);
        C.due("4: a FAULT", Checks.office(x, "machine a 5; mach"), -14);
        C.due("4: the tape is empty with a FAULT, too", x.count(3), 0);
        C.due("4: it stays", x.count(0), 3);
        x.write(0, 0);
        x.sit(2);
        Checks.sentence(x, "held");
        x.image(0);
        C.due("4: a new one", Checks.office(x, "machine\n\n q 5;phrase r 1 0;"), 2);
        C.due("4: its MACHINES", x.count(0), 1);
        C.due("4: its PHRASES", x.count(1), 1);
        C.due("4: its ANSWERS", x.count(2), 0);
        C.due("4: nobody knows it", x.phrase(0, 4), 0);
        for (int what = 0; what <= 7; what++) {
            C.due("4: all is new: " + what, x.now(what), what == 1 || what == 2 ? NONE : 0);
        }
        C.due("4: INK", x.machine(0, 0), 5);
        C.due("4: no SENTENCE", x.said(-1), NONE);
        C.due("4: nothing can be undone", x.undo(), NONE);
        C.due("4: images stay", x.restore(0), true);
        C.due("4: a LINE that is not ended", Checks.office(x, "machine q 5"), -12);
    }

    private static void promise5Fault() {
        KeyLetters x = new KeyLetters();
        C.due("5: ahead of any", x.fault(), 0);
        Checks.office(x, "x");
        C.due("5: 1", x.fault(), 1);
        Checks.office(x, "phrase p 41 1;");
        C.due("5: 2", x.fault(), 2);
        Checks.office(x, "machine p 4; phrase p 4 4;");
        C.due("5: 3", x.fault(), 3);
        Checks.book(x, 2, "");
        C.due("5: -1000 leaves it", x.fault(), 3);
        x.end(0);
        Checks.office(x, "");
        C.due("5: none", x.fault(), 0);
        Checks.book(x, 0, "machine");
        C.due("5: of a BOOK", x.fault(), 1);
        Checks.sentence(x, "held");
        C.due("5: none of a SENTENCE", x.fault(), 0);
        Checks.sentence(x, "able q");
        C.due("5: of a SENTENCE", x.fault(), 3);
        Checks.ship(x, 99);
        C.due("5: others leave it", x.fault(), 3);
        Checks.book(x, 0, "");
        C.due("5: none of a BOOK", x.fault(), 0);
    }

    private static void promise6Machine() {
        KeyLetters x = Checks.told(Checks.OFFICE);
        C.due("6: INK", x.machine(1, 0), 20);
        C.due("6: knows", x.machine(0, 1), 3);
        C.due("6: no girl", x.machine(1, 2), 0);
        C.due("6: CAN", x.machine(1, 5), 5);
        x.write(0, 0);
        x.write(1, 2);
        x.write(0, 0);
        x.write(2, 1);
        x.sit(1);
        C.due("6: INK left", x.machine(0, 0), 20);
        C.due("6: a girl", x.machine(1, 2), 1);
        C.due("6: wrote", x.machine(0, 3), 2);
        C.due("6: letters", x.machine(0, 4), 20);
        C.due("6: CAN none, held", x.machine(1, 5), 0);
        C.due("6: CAN none, it wrote the LATEST", x.machine(2, 5), 0);
        C.due("6: owes", x.machine(0, 6), 8);
        C.due("6: is owed", x.machine(0, 7), 5);
        C.due("6: owes, the other one", x.machine(1, 6), 5);
        C.due("6: is owed, the third one", x.machine(2, 7), 8);
        C.machineThrows(x, 3, 0);
        C.machineThrows(x, -1, 0);
        C.machineThrows(x, LEAST, 0);
        C.machineThrows(x, GREATEST, 7);
        C.machineThrows(x, 0, 8);
        C.machineThrows(x, 0, -1);
        C.machineThrows(new KeyLetters(), 0, 0);
        C.due("6: nothing is changed", x.now(4), 4);
    }

    private static void promise7Phrase() {
        KeyLetters x = Checks.told(Checks.OFFICE);
        C.due("7: LONG", x.phrase(1, 0), 6);
        C.due("7: CLAIM", x.phrase(0, 1), 5);
        C.due("7: its ANSWERS", x.phrase(0, 2), 6);
        C.due("7: to which it is one", x.phrase(2, 3), 3);
        C.due("7: who knows it", x.phrase(0, 4), 3);
        C.due("7: no such PHRASE", x.phrase(3, 0), NONE);
        C.due("7: no such PHRASE below", x.phrase(-1, 0), NONE);
        C.due("7: no such what", x.phrase(0, 5), NONE);
        C.due("7: no such what below", x.phrase(0, -1), NONE);
        KeyLetters most = Checks.told("phrase p 40 99; phrase q 1 0; answers p p;");
        C.due("7: the greatest LONG", most.phrase(0, 0), 40);
        C.due("7: the greatest CLAIM", most.phrase(0, 1), 99);
        C.due("7: an ANSWER to itself", most.phrase(0, 2), 1);
        C.due("7: one to itself", most.phrase(0, 3), 1);
    }

    private static void promise8Owes() {
        KeyLetters x = Checks.told(Checks.OFFICE);
        x.write(1, 0);
        x.write(0, 1);
        C.due("8: who wrote ahead owes", x.owes(1, 0), 8);
        C.due("8: not the other way", x.owes(0, 1), 0);
        C.due("8: alike", x.owes(1, 1), NONE);
        C.due("8: no such one", x.owes(3, 0), NONE);
        C.due("8: to no such one", x.owes(0, 3), NONE);
        C.due("8: below", x.owes(-1, 0), NONE);
        C.due("8: to one below", x.owes(0, -1), NONE);
    }

    private static void promise9Now() {
        KeyLetters x = Checks.told(Checks.OFFICE);
        x.write(0, 0);
        C.due("9: LATEST", x.now(1), 0);
        C.due("9: who wrote it", x.now(2), 0);
        x.sit(1);
        x.days(1);
        C.due("9: DAY", x.now(0), 1);
        C.due("9: LATEST by roy", x.now(1), 1);
        C.due("9: roy", x.now(2), 2);
        C.due("9: girls", x.now(3), 2);
        C.due("9: phrases", x.now(4), 2);
        C.due("9: letters", x.now(5), 16);
        C.due("9: LETTERS", x.now(6), 0);
        C.due("9: all that is owed", x.now(7), 8);
        x.days(1);
        C.due("9: one LETTER is over", x.now(6), 1);
        C.due("9: no LATEST", x.now(1), NONE);
        C.due("9: nobody wrote it", x.now(2), NONE);
        C.due("9: another what", x.now(8), NONE);
        C.due("9: another what below", x.now(-1), NONE);
    }

    private static void promise10Write() {
        KeyLetters x = Checks.told(Checks.OFFICE);
        C.due("10: not known", x.write(2, 0), 3);
        x.ribbon(2, 10);
        C.due("10: the first one need be no ANSWER", x.write(2, 1), 0);
        C.due("10: INK is less", x.machine(2, 0), 4);
        C.due("10: nobody owes for it", x.now(7), 0);
        C.due("10: it wrote the LATEST", x.write(2, 1), 2);
        C.due("10: no ANSWER, and not known either", x.write(0, 2), 3);
        C.due("10: no ANSWER", x.write(0, 1), 4);
        C.due("10: an ANSWER", x.write(1, 2), 0);
        C.due("10: of CLAIM 0", x.owes(2, 1), 0);
        x.sit(1);
        C.due("10: held is the least", x.write(1, 2), 1);
        C.due("10: no ANSWER ahead of INK", x.write(2, 1), 4);
        C.due("10: an ANSWER again", x.write(0, 0), 0);
        C.due("10: too little INK", x.write(2, 1), 5);
        x.ribbon(2, 6);
        C.due("10: just enough", x.write(2, 1), 0);
        C.due("10: nothing left", x.machine(2, 0), 0);
        C.due("10: no such MACHINE", x.write(3, 0), NONE);
        C.due("10: no MACHINE below", x.write(-1, 0), NONE);
        C.due("10: no such PHRASE", x.write(0, 3), NONE);
        C.due("10: no PHRASE below", x.write(0, -1), NONE);
        oweTheMost();
    }

    private static void oweTheMost() {
        KeyLetters x = Checks.told("machine a 999; machine b 999; phrase x 1 99; knows a x; knows b x; answers x x;");
        for (int i = 0; i < 203; i++) {
            x.write(i % 2, 0);
        }
        C.due("10: a owes 101 times 99", x.owes(0, 1), 9999);
        C.due("10: b owes 101 times 99", x.owes(1, 0), 9999);
        x.write(1, 0);
        C.due("10: no more than 9999", x.owes(0, 1), 9999);
        KeyLetters y = Checks.told("machine a 999; machine b 999; phrase x 1 98; knows a x; knows b x; answers x x;");
        for (int i = 0; i < 206; i++) {
            y.write(i % 2, 0);
        }
        C.due("10: 103 times 98 is cut", y.owes(0, 1), 9999);
        C.due("10: 102 times 98 is not", y.owes(1, 0), 9996);
    }

    private static void promise11Sit() {
        KeyLetters x = Checks.told(Checks.OFFICE);
        C.due("11: she does", x.sit(2), 0);
        C.due("11: she is there", x.now(3), 4);
        C.due("11: one is there", x.sit(2), 1);
        C.due("11: another one", x.sit(0), 0);
        C.due("11: both are there", x.now(3), 5);
        C.due("11: no such one", x.sit(3), NONE);
        C.due("11: none below", x.sit(-1), NONE);
        C.due("11: far off", x.sit(32), NONE);
    }

    private static void promise12Leave() {
        KeyLetters x = Checks.told(Checks.OFFICE);
        C.due("12: none is there", x.leave(1), 1);
        x.sit(1);
        x.sit(2);
        C.due("12: she does", x.leave(1), 0);
        C.due("12: the other one stays", x.now(3), 4);
        C.due("12: she is gone", x.leave(1), 1);
        C.due("12: no such one", x.leave(3), NONE);
        C.due("12: none below", x.leave(-1), NONE);
    }

    private static void promise13Ribbon() {
        KeyLetters x = Checks.told(Checks.OFFICE);
        C.due("13: less", x.ribbon(2, 8), 1);
        C.due("13: as much", x.ribbon(2, 9), 1);
        C.due("13: more", x.ribbon(2, 10), 0);
        C.due("13: so much", x.machine(2, 0), 10);
        C.due("13: the most", x.ribbon(0, 999), 0);
        C.due("13: so much is the most", x.machine(0, 0), 999);
        C.due("13: too much", x.ribbon(1, 1000), NONE);
        C.due("13: none", x.ribbon(1, 0), NONE);
        C.due("13: the least", x.ribbon(1, 1), 1);
        C.due("13: below", x.ribbon(1, -5), NONE);
        C.due("13: no such one", x.ribbon(3, 50), NONE);
        C.due("13: none below either", x.ribbon(-1, 50), NONE);
        x.sit(1);
        C.due("13: held or not", x.ribbon(1, 50), 0);
    }

    private static void promise14Clear() {
        KeyLetters x = Checks.told("machine a 99; machine b 99; machine c 99; phrase x 1 7; phrase y 1 3; knows a x;"
                + "knows b y; knows c x; answers x x; answers y x; answers x y;");
        C.due("14: nothing is owed", x.clear(), 1);
        x.write(0, 0);
        x.write(1, 1);
        C.due("14: one way alone", x.clear(), 1);
        x.write(0, 0);
        x.write(2, 0);
        x.write(0, 0);
        C.due("14: 3 and 7", x.owes(0, 1) * 10 + x.owes(1, 0), 37);
        C.due("14: done", x.clear(), 0);
        C.due("14: the lesser is gone", x.owes(0, 1), 0);
        C.due("14: the greater is less by it", x.owes(1, 0), 4);
        C.due("14: all two are cleared", x.owes(0, 2) + x.owes(2, 0), 0);
        C.due("14: once", x.clear(), 1);
        C.due("14: no MACHINES", new KeyLetters().clear(), 1);
    }

    private static void promise15Days() {
        KeyLetters x = Checks.told(Checks.OFFICE);
        C.due("15: none", x.days(0), NONE);
        C.due("15: below", x.days(-1), NONE);
        C.due("15: too many", x.days(61), NONE);
        C.due("15: none went by", x.now(0), 0);
        x.days(1);
        C.due("15: the first one writes the least PHRASE", x.now(2) * 10 + x.now(1), 0);
        x.days(1);
        C.due("15: the one behind it", x.now(2) * 10 + x.now(1), 12);
        x.days(1);
        C.due("15: the next one can't, so all round", x.now(2) * 10 + x.now(1), 0);
        C.due("15: as many as told", x.days(57), 57);
        C.due("15: they fell silent more than once", x.now(6) > 0, true);
        for (int i = 0; i < 5; i++) {
            C.due("15: sixty", x.days(60), 60);
        }
        C.due("15: all that are left", x.days(60), 40);
        C.due("15: all are over", x.days(60), 0);
        C.due("15: DAY 400", x.now(0), 400);
        KeyLetters y = Checks.told(Checks.OFFICE + "machine tom 9; knows tom ship; knows tom bill;");
        y.ribbon(3, 99);
        y.write(3, 0);
        y.sit(0);
        y.sit(1);
        y.days(1);
        C.due("15: from the one behind it on, from 0 again", y.now(2) * 10 + y.now(1), 21);
    }

    private static void promise16Undo() {
        KeyLetters x = Checks.told(PAIR);
        C.due("16: none", x.undo(), NONE);
        x.write(0, 0);
        x.write(1, 0);
        x.write(0, 0);
        x.clear();
        C.due("16: how many more", x.undo(), 3);
        C.due("16: what was owed is owed", x.now(7), 14);
        C.due("16: the next one", x.undo(), 2);
        C.due("16: LATEST as then", x.now(2), 1);
        x.write(1, 0);
        x.sit(1);
        x.sit(1);
        x.leave(0);
        C.due("16: what was not done is not kept", x.undo(), 2);
        x.sit(0);
        x.leave(0);
        x.ribbon(0, 500);
        x.days(2);
        x.drawn(2, 5);
        Checks.book(x, 1, "day 3; day 3; a sits; a sits;");
        Checks.book(x, 0, "day 3;");
        Checks.book(x, 1, "a sits; a sits; day 3;");
        Checks.book(x, 1, "");
        C.due("16: seven of them", x.undo(), 7);
        C.due("16: a whole BOOK", x.now(0), 4);
        x.undo();
        C.due("16: DRAWN", x.now(0), 2);
        C.due("16: DAYS", x.undo() * 1000 + x.now(0), 5000);
        C.due("16: a RIBBON", x.undo() * 1000 + x.machine(0, 0), 4094);
        C.due("16: to LEAVE", x.undo() * 1000 + x.now(3), 3001);
        C.due("16: to SIT", x.undo() * 1000 + x.now(3), 2000);
        undoKeepsEight();
    }

    private static void undoKeepsEight() {
        KeyLetters x = Checks.told(PAIR);
        for (int i = 1; i <= 11; i++) {
            x.ribbon(0, 100 + i);
        }
        for (int left = 7; left >= 0; left--) {
            C.due("16: eight are kept", x.undo(), left);
        }
        C.due("16: as it was eight ahead", x.machine(0, 0), 103);
        C.due("16: no ninth", x.undo(), NONE);
        x.days(1);
        Checks.sentence(x, "held");
        x.sit(1);
        x.undo();
        C.due("16: the SENTENCE stays", x.said(-1), 0);
        KeyLetters y = Checks.told(PAIR);
        for (int i = 0; i < 7; i++) {
            y.days(60);
        }
        y.days(60);
        y.drawn(60, 1);
        C.due("16: DAYS that did not go are not kept", y.undo(), 6);
    }

    private static void promise17Comes() {
        KeyLetters x = Checks.told(Checks.OFFICE);
        C.due("17: at once", x.comes(2), 1);
        x.write(0, 0);
        C.due("17: again", x.comes(0), 2);
        C.due("17: no such one", x.comes(3), NONE);
        C.due("17: none below", x.comes(-1), NONE);
        C.due("17: far off", x.comes(GREATEST), NONE);
        C.due("17: an ANSWER by another one", x.comes(1), 1);
        x.sit(2);
        C.due("17: not by one who is held, nor by who wrote ahead", x.comes(1), NONE);
        x.sit(1);
        C.due("17: never", x.comes(0), NONE);
        KeyLetters poor = Checks.told("machine a 0; phrase x 9 9; phrase y 9 9; knows a x;");
        C.due("17: INK no matter", poor.comes(0), 1);
        C.due("17: nobody knows it", poor.comes(1), NONE);
        KeyLetters row = Checks.told("machine a 9; machine b 9; phrase p 1 1; phrase q 1 1; phrase r 1 1; phrase s 1 1;"
                + "knows a p; knows b q; knows a r; knows b s; knows a s; answers q p; answers r q; answers s r;"
                + "answers p s;");
        row.write(0, 0);
        C.due("17: r behind q", row.comes(2), 2);
        C.due("17: s behind r, by b", row.comes(3), 3);
        C.due("17: the LATEST itself, a round later", row.comes(0), 4);
    }

    private static void promise18ComesAt() {
        KeyLetters x = Checks.told(Checks.OFFICE);
        C.due("18: ahead of any", x.comesAt(0), NONE);
        x.comes(2);
        C.due("18: 8 by MACHINE and PHRASE", x.comesAt(0), 10);
        C.due("18: none such", x.comesAt(1), NONE);
        C.due("18: none below", x.comesAt(-1), NONE);
        x.comes(7);
        C.due("18: the latest that was not NONE", x.comesAt(0), 10);
        x.write(0, 0);
        x.comes(0);
        C.due("18: the first of two", x.comesAt(0), 10);
        C.due("18: the second of two", x.comesAt(1), 0);
        KeyLetters y = Checks.told("machine a 9; machine b 9; machine c 9; phrase p 1 1; phrase q 1 1; phrase r 1 1;"
                + "knows a p; knows b r; knows b q; knows c q; knows a r; answers q p; answers r q; answers r p;"
                + "answers p r; answers p q;");
        y.write(0, 0);
        C.due("18: two ways", y.comes(0), 2);
        C.due("18: the least MACHINE, then the least PHRASE", y.comesAt(0), 9);
        C.due("18: and on", y.comesAt(1), 0);
        Checks.office(y, "");
        C.due("18: it stays in a new OFFICE", y.comesAt(0), 9);
    }

    private static void promise19Silent() {
        C.due("19: no MACHINES", new KeyLetters().silent(), 1);
        KeyLetters x = Checks.told(PAIR);
        C.due("19: 19 phrases each", x.silent(), 39);
        C.due("19: nothing is done", x.now(0) + x.now(4), 0);
        x.write(1, 0);
        C.due("19: one less", x.silent(), 38);
        for (int i = 0; i < 7; i++) {
            x.days(60);
        }
        x.ribbon(0, 10);
        C.due("19: DAY 400 no matter", x.now(0) * 1000 + x.silent(), 400002);
        String pair = PAIR.replace("99", "ink").replace("x 5 7", "x 1 7");
        C.due("19: in 99", Checks.told(pair.replace("ink", "49")).silent(), 99);
        C.due("19: not in 99", Checks.told(pair.replace("a ink", "a 50").replace("ink", "49")).silent(), NONE);
        KeyLetters held = Checks.told(PAIR);
        held.sit(0);
        C.due("19: one alone", held.silent(), 2);
    }

    private static void promise20Ways() {
        KeyLetters x = Checks.told(Checks.OFFICE);
        C.due("20: WAYS", Checks.ways(x, 0, 1, 2), 3);
        C.due("20: the tape is empty", x.count(3), 0);
        C.due("20: one PHRASE", Checks.ways(x, 0), 2);
        C.due("20: none", Checks.ways(x, 2, 2), 0);
        C.due("20: no bytes", x.ways(), NONE);
        C.due("20: no PHRASE", Checks.ways(x, 0, 3), NONE);
        C.due("20: a great byte", Checks.ways(x, 255), NONE);
        C.due("20: ten bytes", Checks.ways(x, 0, 1, 0, 1, 0, 1, 0, 1, 0, 1), NONE);
        C.due("20: nine bytes", Checks.ways(x, 0, 1, 0, 1, 0, 1, 0, 1, 0), 89);
        StringBuilder text = new StringBuilder("phrase p 1 1;");
        for (String m : "a b c d e f".split(" ")) {
            text.append("machine ").append(m).append(" 0; knows ").append(m).append(" p;");
        }
        KeyLetters all = Checks.told(text.toString());
        all.sit(0);
        C.due("20: the most, INK, ANSWERS and girls no matter", Checks.ways(all, 0, 0, 0, 0, 0, 0, 0, 0, 0), 2343750);
    }

    private static void promise21WaysAt() {
        KeyLetters x = Checks.told(Checks.OFFICE);
        C.due("21: ahead of any", x.waysAt(0), NONE);
        Checks.ways(x, 0, 1, 2);
        C.due("21: the first", x.waysAt(0) * 100 + x.waysAt(1) * 10 + x.waysAt(2), 21);
        C.due("21: none such", x.waysAt(3), NONE);
        C.due("21: none below", x.waysAt(-1), NONE);
        Checks.ways(x, 2, 2);
        Checks.ways(x, 9);
        C.due("21: the latest above 0", x.waysAt(1), 2);
        Checks.ways(x, 1, 0);
        C.due("21: a later one", x.waysAt(0) * 10 + x.waysAt(1), 1);
        C.due("21: it is shorter", x.waysAt(2), NONE);
    }

    private static void promise22Ask() {
        KeyLetters x = Checks.told("machine a 9; machine b 9; machine c 9; phrase p 1 1; phrase q 1 1; phrase r 1 1;"
                + "knows a p; knows a q; knows b q; knows c q; knows a r; knows b r;");
        C.due("22: ahead of any", x.ask(), NONE);
        Checks.ways(x, 0, 1, 0, 1);
        C.due("22: the first of like ones", x.ask(), 1);
        // ab, ac, ba, bc, ca, cb: two are left by each MACHINE at either place
        Checks.ways(x, 1, 1);
        C.due("22: either", x.ask(), 0);
        // a at r leaves b, c; b at r leaves a, c; q tells a: 1, b: 1, c: 2; so two each, and the first is taken
        Checks.ways(x, 2, 1);
        C.due("22: like ones again", x.ask(), 0);
        // p is written by a alone: who wrote it tells nothing
        Checks.ways(x, 0, 1);
        C.due("22: not the one that is known", x.ask(), 1);
        Checks.ways(x, 0, 0);
        C.due("22: the latest above 0", x.ask(), 1);
        Checks.ways(x, 0);
        C.due("22: one place", x.ask(), 0);
    }

    private static void promise23Lacks() {
        KeyLetters x = Checks.told(Checks.OFFICE);
        C.due("23: none", Checks.lacks(x, 0, 1, 2), 0);
        C.due("23: the tape is empty", x.count(3), 0);
        C.due("23: each once", Checks.lacks(x, 1, 0, 1, 0, 1), 1);
        C.due("23: the other way round is another one", Checks.lacks(x, 2, 1, 1, 0), 3);
        C.due("23: alike", Checks.lacks(x, 2, 2, 2), 1);
        C.due("23: one PHRASE", Checks.lacks(x, 1), 0);
        C.due("23: no bytes", x.lacks(), NONE);
        C.due("23: no PHRASE", Checks.lacks(x, 3), NONE);
        C.due("23: ten bytes", Checks.lacks(x, 0, 0, 0, 0, 0, 0, 0, 0, 0, 0), NONE);
        C.due("23: nine bytes", Checks.lacks(x, 0, 0, 0, 0, 0, 0, 0, 0, 0), 1);
        KeyLetters bare = Checks.told("phrase a 1 1; phrase b 1 1; phrase c 1 1; phrase d 1 1; phrase e 1 1; phrase f 1 1;"
                + "phrase g 1 1; phrase h 1 1;");
        C.due("23: eight of them", Checks.lacks(bare, 7, 7, 6, 5, 4, 3, 2, 1, 0), 8);
    }

    private static void promise24Faint() {
        KeyLetters x = Checks.told(Checks.OFFICE + "phrase billing 1 1;");
        C.due("24: any of four letters", Checks.faint(x, "????"), 7);
        C.due("24: the tape is empty", x.count(3), 0);
        C.due("24: one letter", Checks.faint(x, "?i??"), 2);
        C.due("24: the whole NAME", Checks.faint(x, "love"), 4);
        C.due("24: another letter", Checks.faint(x, "lovs"), 0);
        C.due("24: seven letters", Checks.faint(x, "bi???ng"), 8);
        C.due("24: too short", Checks.faint(x, "bil"), 0);
        C.due("24: MACHINES are none", Checks.faint(x, "rem"), 0);
        C.due("24: no bytes", x.faint(), NONE);
        C.due("24: eight", Checks.faint(x, "????????"), NONE);
        C.due("24: a capital", Checks.faint(x, "lovE"), NONE);
        C.due("24: a digit", Checks.faint(x, "lo1e"), NONE);
        C.due("24: a blank", Checks.faint(x, "lo e"), NONE);
        C.due("24: a, z", Checks.faint(x, "az"), 0);
    }

    private static void promise25Look() {
        KeyLetters x = Checks.told("phrase bat 1 1; phrase bit 1 1; phrase bot 1 1; phrase bob 1 1; phrase zzz 1 1;");
        C.due("25: ahead of any", x.look(), NONE);
        C.due("25: four fit", Checks.faint(x, "b??"), 15);
        C.due("25: the second letter leaves two", x.look(), 1);
        C.due("25: three fit", Checks.faint(x, "??t"), 7);
        C.due("25: the second letter leaves one", x.look(), 1);
        C.due("25: two fit", Checks.faint(x, "bo?"), 12);
        C.due("25: the third letter leaves one", x.look(), 2);
        Checks.faint(x, "qqq");
        C.due("25: the latest above 0", x.look(), 2);
        C.due("25: one fits", Checks.faint(x, "z??"), 16);
        C.due("25: the first of like ones", x.look(), 0);
    }

    private static void promise26Ship() {
        KeyLetters x = new KeyLetters();
        C.due("26: one loss", Checks.ship(x, 1), 1);
        C.due("26: the tape is empty", x.count(3), 0);
        C.due("26: two", Checks.ship(x, 4, 6), 12);
        C.due("26: six", Checks.ship(x, 60, 59, 58, 57, 55, 1), 21455940);
        C.due("26: too great", Checks.ship(x, 60, 59, 58, 57, 55, 53), NONE);
        C.due("26: near the bound", Checks.ship(x, 9, 11, 17, 19, 53, 59), 99992079);
        C.due("26: just above, 100001195", Checks.ship(x, 35, 31, 37, 47, 53), NONE);
        C.due("26: no loss", x.ship(), NONE);
        C.due("26: seven", Checks.ship(x, 1, 1, 1, 1, 1, 1, 1), NONE);
        C.due("26: 0", Checks.ship(x, 4, 0), NONE);
        C.due("26: 61", Checks.ship(x, 61), NONE);
        C.due("26: 255", Checks.ship(x, 255), NONE);
    }

    private static void promise27Part() {
        KeyLetters x = Checks.told(Checks.OFFICE);
        C.partThrows(x, 0, 0);
        x.write(0, 0);
        C.due("27: all of it", x.part(0, 0) * 10 + x.part(0, 1), 11);
        C.due("27: none of it", x.part(1, 0) * 10 + x.part(1, 1), 1);
        x.write(2, 1);
        C.due("27: 10 of 16 above", x.part(0, 0), 5);
        C.due("27: 10 of 16 below", x.part(0, 1), 8);
        C.due("27: 6 of 16 above", x.part(2, 0), 3);
        C.partThrows(x, 0, 2);
        C.partThrows(x, 0, -1);
        C.partThrows(x, 3, 0);
        C.partThrows(x, -1, 1);
        C.partThrows(new KeyLetters(), 0, 0);
    }

    private static void promise28Line() {
        KeyLetters x = Checks.told(Checks.OFFICE);
        C.due("28: how many bytes", x.line(0), 18);
        C.due("28: its text", Checks.lineText(x).equals("rem wrote 0 ink 40"), true);
        x.write(0, 0);
        x.sit(0);
        C.due("28: held", x.line(0), 23);
        C.due("28: its text, held", Checks.lineText(x).equals("rem wrote 1 ink 30 held"), true);
        C.due("28: no such one", x.line(3), NONE);
        C.due("28: none below", x.line(-1), NONE);
        KeyLetters y = Checks.told("machine zzzzzzz 999;");
        C.due("28: a long NAME", y.line(0), 23);
        C.due("28: its text, a long NAME", Checks.lineText(y).equals("zzzzzzz wrote 0 ink 999"), true);
    }

    private static void promise29ByteAt() {
        KeyLetters x = Checks.told(Checks.OFFICE);
        C.due("29: ahead of any", x.byteAt(0), NONE);
        x.line(2);
        C.due("29: the first", x.byteAt(0), 'r');
        C.due("29: the last", x.byteAt(16), '9');
        C.due("29: none such", x.byteAt(17), NONE);
        C.due("29: none below", x.byteAt(-1), NONE);
        C.due("29: far off", x.byteAt(GREATEST), NONE);
        x.line(9);
        x.sit(2);
        Checks.office(x, "");
        C.due("29: it stays", Checks.lineText(x).equals("roy wrote 0 ink 9"), true);
    }

    private static int draw(int[] seed, int n) {
        seed[0] = seed[0] * 1103515245 + 12345;
        return (seed[0] >>> 8) % n;
    }

    private static void promise30Drawn() {
        KeyLetters x = Checks.told(Checks.OFFICE);
        C.due("30: none", x.drawn(0, 1), NONE);
        C.due("30: too many", x.drawn(61, 1), NONE);
        C.due("30: below", x.drawn(LEAST, 1), NONE);
        drawnWithoutPhrases();
        drawnWritesWhatItCan();
        for (int i = 0; i < 6; i++) {
            C.due("30: sixty", x.drawn(60, i * 99991), 60);
        }
        C.due("30: all that are left", x.drawn(60, -1), 40);
        C.due("30: all are over", x.drawn(60, -1), 0);
        KeyLetters empty = new KeyLetters();
        C.due("30: no MACHINES", empty.drawn(7, 3), 7);
        C.due("30: DAYS all the same", empty.now(0), 7);
    }

    /** Without PHRASES the draws of MACHINE and PHRASE are not made: what comes behind them tells it. */
    private static void drawnWithoutPhrases() {
        for (int x = -40; x < 40; x++) {
            KeyLetters k = Checks.told("machine a 5; machine b 10; machine c 0;");
            k.drawn(30, x * 12345677);
            int[] seed = {x * 12345677};
            int[] ink = {5, 10, 0};
            int girls = 0;
            for (int day = 0; day < 30; day++) {
                int act = draw(seed, 8);
                if (act == 0) {
                    girls ^= 1 << draw(seed, 3);
                } else if (act == 1) {
                    int m = draw(seed, 3);
                    ink[m] = Math.max(ink[m], draw(seed, 60) + 1);
                }
            }
            C.due("30: girls by " + x, k.now(3), girls);
            for (int m = 0; m < 3; m++) {
                C.due("30: INK by " + x, k.machine(m, 0), ink[m]);
            }
        }
    }

    /** One that never can write by the turns of days, as the least PHRASE that it CAN is another one. */
    private static void drawnWritesWhatItCan() {
        int writes = 0;
        for (int x = 0; x < 60; x++) {
            KeyLetters k = Checks.told("machine a 900; phrase p 1 1; phrase q 7 1; knows a p; knows a q;");
            k.drawn(1, x);
            int[] seed = {x};
            int act = draw(seed, 8);
            int m = act >= 2 && act <= 4 ? draw(seed, 1) : NONE;
            int p = act >= 2 && act <= 4 ? draw(seed, 2) : NONE;
            boolean heldFirst = act == 0;
            int letters = heldFirst ? 0 : m == NONE ? 1 : p == 0 ? 1 : 7;
            writes += letters == 7 ? 1 : 0;
            C.due("30: letters by " + x, k.now(5), letters);
            C.due("30: LATEST by " + x, k.now(1), heldFirst || m != NONE ? NONE : 0);
        }
        C.due("30: some of them wrote q", writes > 0, true);
    }

    private static void promise31Odds() {
        KeyLetters x = Checks.told(Checks.OFFICE);
        C.due("31: no seeds", x.odds(0, 0, 1), NONE);
        C.due("31: too many seeds", x.odds(0, 31, 1), NONE);
        C.due("31: no such one", x.odds(3, 5, 1), NONE);
        C.due("31: none below", x.odds(-1, 5, 1), NONE);
        for (int m = 0; m < 3; m++) {
            C.due("31: as by drawing each seed " + m, x.odds(m, 30, 77), oddsByDrawing(m, 30, 77));
            C.due("31: seeds wrap round " + m, x.odds(m, 9, GREATEST - 3), oddsByDrawing(m, 9, GREATEST - 3));
        }
        C.due("31: nothing is done", x.now(0) + x.now(4) + x.undo(), -1);
        for (int i = 0; i < 7; i++) {
            x.days(60);
        }
        C.due("31: all DAYS are over", x.odds(0, 30, 1), 0);
    }

    private static int oddsByDrawing(int m, int n, int seed) {
        int more = 0;
        for (int i = 0; i < n; i++) {
            KeyLetters y = Checks.told(Checks.OFFICE);
            y.drawn(10, seed + i);
            more += y.machine(m, 3) > 0 ? 1 : 0;
        }
        return more;
    }

    private static void promise32Book() {
        KeyLetters x = Checks.told(Checks.OFFICE);
        C.due("32: an empty one", x.book(1), NONE);
        C.due("32: nothing to undo by it", x.undo(), NONE);
        String good = "rem writes ship; oli sits; oli leaves; oli ribbon 21; roy writes bill; day 2; oli sits;";
        C.due("32: judged", Checks.book(x, 0, good), NONE);
        C.due("32: the tape is empty", x.count(3), 0);
        C.due("32: all stays", x.now(0) + x.now(4), 0);
        C.due("32: lived", Checks.book(x, 1, good), NONE);
        C.due("32: DAY 2", x.now(0), 2);
        C.due("32: INK", x.machine(1, 0), 21 - 4);
        C.due("32: a girl", x.now(3), 2);
        C.due("32: one WRONG", Checks.book(x, 1, "oli leaves; oli leaves; day 5;"), 1);
        C.due("32: as far as it is not WRONG", x.now(3) * 10 + x.now(0), 2);
        C.due("32: the first is WRONG", Checks.book(x, 1, "oli leaves;"), 0);
        C.due("32: the one ahead is undone", x.undo() * 10 + x.now(3), 12);
        Checks.feed(x, "day 1;");
        C.due("32: lives 2", x.book(2), -1000);
        C.due("32: lives -1", x.book(-1), -1000);
        C.due("32: the tape stays", x.count(3), 6);
        C.due("32: and is read then", x.book(0), NONE);
        C.due("32: a FAULT", Checks.book(x, 1, "day 1; rem writes rem;"), -2 - 18);
        C.due("32: nothing is lived then", x.now(0), 2);
        C.due("32: the tape is empty with a FAULT, too", x.count(3), 0);
        x.days(60);
        x.days(60);
        x.days(60);
        x.days(60);
        x.days(60);
        x.days(60);
        x.undo();
        x.days(58);
        C.due("32: DAYS that are left", x.now(0) + Checks.book(x, 0, "day 40;"), 359);
        C.due("32: fewer are left", Checks.book(x, 1, "day 41;"), 0);
        C.due("32: none of them goes", x.now(0), 360);
    }

    private static void promise33Told() {
        KeyLetters x = Checks.told(Checks.OFFICE);
        C.due("33: ahead of any", x.told(0), NONE);
        Checks.book(x, 0, "day");
        C.due("33: with a FAULT", x.told(0), NONE);
        x.book(0);
        C.due("33: not WRONG", told(x), 0);
        Checks.book(x, 0, "day 1; roy writes love;");
        C.due("33: not known", told(x), 3101);
        Checks.book(x, 0, "rem sits; rem writes ship;");
        C.due("33: a girl", told(x), 1100);
        Checks.book(x, 0, "rem writes ship; rem writes ship;");
        C.due("33: it wrote the LATEST", told(x), 2101);
        Checks.book(x, 0, "rem writes ship; oli writes ship;");
        C.due("33: no ANSWER", told(x), 4101);
        Checks.book(x, 0, "roy writes bill; oli writes love; rem writes bill;");
        C.due("33: no ANSWER either", told(x), 4202);
        KeyLetters poor = Checks.told("machine a 0; phrase p 1 1; knows a p;");
        Checks.book(poor, 0, "a writes p;");
        C.due("33: too little INK", told(poor), 5000);
        Checks.book(x, 0, "oli sits; oli sits;");
        C.due("33: sitting", told(x), 11100);
        Checks.book(x, 0, "oli leaves;");
        C.due("33: leaving", told(x), 21000);
        Checks.book(x, 0, "oli ribbon 21; oli ribbon 21;");
        C.due("33: a ribbon", told(x), 31100);
        Checks.book(x, 0, "clear;");
        C.due("33: clearing", told(x), 41000);
        Checks.book(x, 0, "day 60; day 60; day 60; day 60; day 60; day 60; day 41;");
        C.due("33: DAYS", x.told(0) * 1000 + x.told(1), 51006);
        C.due("33: the DAY then", x.told(2), 360);
        Checks.book(x, 0, "day 4; rem");
        x.book(7);
        C.due("33: the latest without a FAULT", x.told(2), 360);
        C.due("33: another what", x.told(4), NONE);
        C.due("33: another what below", x.told(-1), NONE);
        Checks.book(x, 1, "day 2; rem sits; rem sits;");
        C.due("33: phrases and DAY behind lived ones", x.told(2) * 10 + x.told(3), 22);
        Checks.office(x, "");
        C.due("33: it stays", x.told(0), 11);
    }

    /** Why it was WRONG, how many LINES ahead (hundreds), and the phrases then, the DAY left out. */
    private static int told(KeyLetters x) {
        return x.told(0) * 1000 + x.told(1) * 100 + x.told(3);
    }

    private static void promise34Sentence() {
        KeyLetters x = Checks.told(Checks.OFFICE);
        C.due("34: one ONE", Checks.sentence(x, "held"), 1);
        C.due("34: the tape is empty", x.count(3), 0);
        C.due("34: each not, bracket and other one", Checks.sentence(x, "not (held or mute) and able ship"), 5);
        C.due("34: a FAULT", Checks.sentence(x, "not held and"), -13);
        C.due("34: it stays", x.said(-1), 2);
        C.due("34: no bytes", x.sentence(), -1);
        C.due("34: NAMES of MACHINES", Checks.sentence(x, "owes roy and owes oli and owes rem"), 3);
        C.due("34: SIGNS", Checks.sentence(x, "ink<0 or wrote=999or number>5"), -16);
        C.due("34: SIGNS apart", Checks.sentence(x, "ink<0 or wrote=999 or number>5"), 3);
        Checks.office(x, Checks.OFFICE);
        C.due("34: a new OFFICE has none", x.said(-1), NONE);
    }

    private static void said(KeyLetters x, String sentence, int bits) {
        if (Checks.sentence(x, sentence) < 0) {
            C.due("35: it is a SENTENCE: " + sentence, 0, 1);
        }
        int seen = 0;
        for (int k = 0; k < 6; k++) {
            int m = x.said(k);
            seen |= m == NONE ? 0 : 1 << m;
            C.due("35: in order: " + sentence, m == NONE || k == 0 || x.said(k - 1) < m, true);
        }
        C.due("35: said " + sentence, seen, bits);
        C.due("35: how many " + sentence, x.said(-1), Integer.bitCount(bits));
    }

    private static void promise35Said() {
        KeyLetters x = Checks.told(Checks.OFFICE);
        C.due("35: no SENTENCE", x.said(0), NONE);
        said(x, "latest", 0);
        x.write(1, 0);
        x.write(0, 1);
        x.sit(2);
        said(x, "held", 4);
        said(x, "latest", 1);
        said(x, "mute", 5);
        said(x, "able love", 2);
        said(x, "able bill", 0);
        said(x, "owes rem", 2);
        said(x, "owes oli", 0);
        said(x, "ink < 34", 6);
        said(x, "ink = 34", 1);
        said(x, "ink > 9", 3);
        said(x, "wrote > 0", 3);
        said(x, "wrote = 0", 4);
        said(x, "number < 1", 1);
        said(x, "number > 0", 6);
        said(x, "number = 2", 4);
        said(x, "not held", 3);
        said(x, "not not held", 4);
        said(x, "held or latest", 5);
        said(x, "held and latest", 0);
        said(x, "number = 0 or number = 1 and number = 2", 1);
        said(x, "(number = 0 or number = 1) and number = 2", 0);
        said(x, "not number = 0 and number < 2", 2);
        said(x, "not (number = 0 and number < 2)", 6);
        said(x, "number = 2 and held or number = 0", 5);
        said(x, "held or ".repeat(19) + "latest", 5);
        said(x, "mute and ".repeat(18) + "not held", 1);
        C.due("35: none such", x.said(1), NONE);
        C.due("35: below NONE", x.said(-2), NONE);
        C.due("35: far below", x.said(LEAST), NONE);
        x.leave(2);
        C.due("35: of what is so now", x.said(-1), 2);
        said(x, "latest", 1);
        KeyLetters one = Checks.told("machine a 9; machine b 9; phrase p 1 1; knows a p; knows b p; answers p p;");
        one.write(1, 0);
        one.write(0, 0);
        said(one, "owes a", 2);
        KeyLetters empty = new KeyLetters();
        said(empty, "not held", 0);
    }

    private static void promise36Image() {
        KeyLetters x = Checks.told(Checks.OFFICE);
        C.due("36: 0", x.image(0), true);
        C.due("36: 1", x.image(1), true);
        C.due("36: 2", x.image(2), false);
        C.due("36: -1", x.image(-1), false);
        x.write(0, 0);
        x.image(1);
        C.due("36: it may be undone still", x.undo(), 0);
        x.restore(0);
        C.due("36: each its own", x.now(4), 0);
        x.restore(1);
        C.due("36: the later one", x.now(4), 1);
        x.days(9);
        x.restore(1);
        C.due("36: an image is not changed by what is done", x.now(0), 0);
    }

    private static void promise37Restore() {
        KeyLetters x = Checks.told(Checks.OFFICE);
        C.due("37: nothing is kept", x.restore(0), false);
        C.due("37: no such one", x.restore(2), false);
        C.due("37: none below", x.restore(-1), false);
        x.write(0, 0);
        x.write(2, 1);
        x.sit(1);
        x.days(3);
        Checks.sentence(x, "held");
        int[] now = new int[8];
        for (int i = 0; i < 8; i++) {
            now[i] = x.now(i);
        }
        C.due("37: the other place", x.image(1) && !x.restore(0), true);
        Checks.office(x, PAIR);
        x.write(0, 0);
        x.comes(0);
        x.line(0);
        Checks.feed(x, "abc");
        C.due("37: done", x.restore(1), true);
        for (int i = 0; i < 8; i++) {
            C.due("37: as kept " + i, x.now(i), now[i]);
        }
        C.due("37: the OFFICE", x.count(0) * 100 + x.count(1) * 10 + x.count(2), 334);
        C.due("37: who owes whom", x.owes(0, 2), 8);
        C.due("37: the SENTENCE", x.said(0), 1);
        C.due("37: nothing can be undone", x.undo(), NONE);
        C.due("37: the tape stays", x.count(3), 3);
        C.due("37: what other calls told stays", x.comesAt(0) * 100 + x.byteAt(0), 800 + 'a');
        x.end(0);
        Checks.office(x, PAIR);
        x.image(0);
        x.restore(1);
        x.restore(0);
        C.due("37: no SENTENCE was kept", x.said(-1), NONE);
        C.due("37: twice", x.restore(1) && x.restore(1), true);
    }

    private static void promise38Count() {
        KeyLetters x = Checks.told(Checks.OFFICE);
        x.feed(1, 2, 3, 4, 5);
        C.due("38: MACHINES", x.count(0), 3);
        C.due("38: PHRASES", x.count(1), 3);
        C.due("38: ANSWERS", x.count(2), 4);
        C.due("38: bytes", x.count(3), 20);
        C.due("38: another what", x.count(4), NONE);
        C.due("38: another what below", x.count(-1), NONE);
    }
}
