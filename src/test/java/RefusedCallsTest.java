import java.util.ArrayList;
import java.util.List;

/**
 * Calls that are refused (NONE, why not, false, a FAULT, an exception) and calls that only answer leave all as it is:
 * an object on which one was made and a twin on which it was not made answer alike from then on.
 */
public final class RefusedCallsTest {
    private static final int NONE = KeyLetters.NONE;
    private static final int LEAST = Integer.MIN_VALUE;
    private static final int GREATEST = Integer.MAX_VALUE;
    private static final int[] NO_SUCH = {LEAST, -1000, -33, -32, -2, -1, 3, 4, 31, 32, 33, 35, 64, 256, 1000, GREATEST};

    private static final Checks C = new Checks();

    private interface Call {
        long on(KeyLetters x);
    }

    public static void main(String[] args) {
        theTape();
        texts();
        acts();
        actsOfNone();
        daysGoing();
        asking();
        answering();
        rowsAndLetters();
        readings();
        books();
        images();
        emptyOffice();
        C.end("RefusedCallsTest");
    }

    /** One of which much is told: eight acts that can be undone, a girl, debts, an image, a tape. */
    private static KeyLetters much() {
        KeyLetters x = Checks.told(Checks.OFFICE);
        Checks.sentence(x, "not held");
        x.write(0, 0);
        x.comes(0);
        Checks.ways(x, 0, 1, 2);
        Checks.faint(x, "?o??");
        x.line(1);
        Checks.book(x, 1, "roy writes bill; oli writes love; rem writes ship; clear;");
        x.sit(1);
        x.ribbon(2, 50);
        x.image(1);
        x.days(2);
        x.drawn(3, 4);
        x.write(1, 2);
        x.sit(2);
        Checks.feed(x, "love");
        return x;
    }

    /** All that can be asked without a change, but for what was told of texts. */
    private static List<Integer> seen(KeyLetters x) {
        List<Integer> all = new ArrayList<>();
        for (int what = 0; what < 4; what++) {
            all.add(x.count(what));
            all.add(x.comesAt(what));
            all.add(x.waysAt(what));
            all.add(x.said(what - 1));
        }
        for (int what = 0; what < 8; what++) {
            all.add(x.now(what));
            for (int m = 0; m < x.count(0); m++) {
                all.add(x.machine(m, what));
            }
            all.add(x.phrase(what % 3, what % 5));
            all.add(x.owes(what % 3, what / 3));
            all.add(x.byteAt(what * 3));
        }
        all.add(x.ask());
        all.add(x.look());
        return all;
    }

    private static void same(String call, KeyLetters x, KeyLetters twin) {
        for (int what = 0; what < 4; what++) {
            C.due(call + ": told " + what, x.told(what), twin.told(what));
        }
        sameButTold(call, x, twin);
    }

    private static void sameButTold(String call, KeyLetters x, KeyLetters twin) {
        C.due(call + ": all is as without it", seen(x).equals(seen(twin)), true);
        int left;
        do {
            left = twin.undo();
            C.due(call + ": what can be undone", x.undo(), left);
            C.due(call + ": what was undone", x.now(0) * 1000 + x.now(5), twin.now(0) * 1000 + twin.now(5));
        } while (left > 0);
        C.due(call + ": image 0", x.restore(0), twin.restore(0));
        C.due(call + ": image 1", x.restore(1), twin.restore(1));
        C.due(call + ": the image kept", seen(x).equals(seen(twin)), true);
    }

    /** The call answers what is due and leaves all as it is. */
    private static void refused(String call, Call made, long due) {
        KeyLetters x = much();
        C.due(call, made.on(x), due);
        same(call, x, much());
    }

    /** The same, but the call takes the tape. */
    private static void refusedOfTape(String call, Call made, long due) {
        KeyLetters x = much();
        KeyLetters twin = much();
        C.due(call, made.on(x), due);
        C.due(call + ": the tape is empty", x.count(3), 0);
        twin.end(0);
        same(call, x, twin);
    }

    private static long bit(boolean answer) {
        return answer ? 1 : 0;
    }

    private static void theTape() {
        refused("end(-1)", x -> bit(x.end(-1)), 0);
        refused("end(least)", x -> bit(x.end(LEAST)), 0);
        refused("end(5) of four bytes", x -> bit(x.end(5)), 0);
        refused("end(greatest)", x -> bit(x.end(GREATEST)), 0);
        refused("end(4) of four bytes", x -> bit(x.end(4)), 1);
        KeyLetters x = new KeyLetters();
        for (int i = 1; i <= 47; i++) {
            C.due("feed " + i, x.feed(i, i, i, i, i), 20 * i);
        }
        for (int i = 0; i < 3; i++) {
            C.due("feed of a full tape", x.feed(-1, -1, -1, -1, -1), NONE);
            C.due("none come", x.count(3), 940);
        }
        for (int had = 921; had < 940; had++) {
            KeyLetters y = new KeyLetters();
            for (int i = 0; i < 47; i++) {
                y.feed(0, 0, 0, 0, 0);
            }
            y.end(had);
            C.due("feed behind " + had, y.feed(0, 0, 0, 0, 0), NONE);
            C.due("none of the twenty come", y.count(3), had);
        }
    }

    private static void texts() {
        C.due("no FAULT", much().fault(), 0);
        refusedOfTape("an OFFICE with FAULT 1", x -> office(x, "machine m 9", 1), -12);
        refusedOfTape("an OFFICE with FAULT 2", x -> office(x, "machine m 9; phrase p 0 0;", 2), -23);
        refusedOfTape("an OFFICE with FAULT 3", x -> office(x, "machine m 9; machine m 9;", 3), -22);
        refusedOfTape("an OFFICE with FAULT 4", x -> office(x, "machine a 1;machine b 1;machine c 1;machine d 1;"
                + "machine e 1;machine f 1;machine g 1;", 4), -73);
        refusedOfTape("an OFFICE too long", x -> office(x, Checks.spaces(901), 1), -901);
        refusedOfTape("a BOOK with a FAULT", x -> book(x, "rem leaves; rem", 1), -17);
        refusedOfTape("a BOOK with FAULT 2", x -> book(x, "day 1; day 61;", 2), -13);
        refusedOfTape("a BOOK of a NAME not told", x -> book(x, "day 1; tom sits;", 3), -9);
        refusedOfTape("a BOOK of 41 LINES", x -> book(x, "day 1;".repeat(41), 4), -242);
        refusedOfTape("a SENTENCE with a FAULT", x -> sentence(x, "held and", 1), -9);
        refusedOfTape("a SENTENCE of a NAME not told", x -> sentence(x, "held or able tom", 3), -14);
        refusedOfTape("a SENTENCE of 21 ONES", x -> sentence(x, "held or ".repeat(20) + "held", 4), -161);
    }

    private static long office(KeyLetters x, String text, int fault) {
        x.end(0);
        long answer = Checks.office(x, text);
        C.due("fault of " + text, x.fault(), fault);
        return answer;
    }

    private static long book(KeyLetters x, String text, int fault) {
        x.end(0);
        long answer = Checks.book(x, 1, text);
        C.due("fault of " + text, x.fault(), fault);
        return answer;
    }

    private static long sentence(KeyLetters x, String text, int fault) {
        x.end(0);
        long answer = Checks.sentence(x, text);
        C.due("fault of " + text, x.fault(), fault);
        return answer;
    }

    private static void acts() {
        KeyLetters x = much();
        C.due("oli wrote the LATEST, love", x.now(1) * 10 + x.now(2), 21);
        C.due("a girl sits at roy", x.now(3), 4);
        for (int p = 0; p < 3; p++) {
            int phrase = p;
            refused("write where a girl sits", y -> y.write(2, phrase), 1);
            refused("write by who wrote the LATEST", y -> y.write(1, phrase), 2);
        }
        refused("write what it does not know", y -> y.write(0, 2), 3);
        refused("write what is no ANSWER", y -> y.write(0, 1), 4);
        refused("write without INK", y -> y.write(0, 0), 5);
        refused("sit where a girl sits", y -> y.sit(2), 1);
        refused("leave where none sits", y -> y.leave(0), 1);
        refused("leave where none sits any more", y -> y.leave(1), 1);
        refused("a ribbon of as much INK", y -> y.ribbon(2, 44), 1);
        refused("a ribbon of less INK", y -> y.ribbon(2, 43), 1);
        refused("the least ribbon", y -> y.ribbon(1, 1), 1);
        KeyLetters cleared = much();
        KeyLetters twin = much();
        cleared.clear();
        twin.clear();
        C.due("clear with nothing to clear", cleared.clear(), 1);
        same("clear with nothing to clear", cleared, twin);
    }

    private static void actsOfNone() {
        for (int n : NO_SUCH) {
            refused("write(" + n + ", 0)", x -> x.write(n, 0), NONE);
            refused("write(0, " + n + ")", x -> x.write(0, n), NONE);
            refused("write(" + n + ", " + n + ")", x -> x.write(n, n), NONE);
            refused("sit(" + n + ")", x -> x.sit(n), NONE);
            refused("leave(" + n + ")", x -> x.leave(n), NONE);
            refused("ribbon(" + n + ", 999)", x -> x.ribbon(n, 999), NONE);
        }
        for (int n : new int[] {LEAST, -1, 0, 1000, 1001, GREATEST}) {
            refused("ribbon(0, " + n + ")", x -> x.ribbon(0, n), NONE);
        }
    }

    private static void daysGoing() {
        for (int n : new int[] {LEAST, -1, 0, 61, 62, 400, GREATEST}) {
            refused("days(" + n + ")", x -> x.days(n), NONE);
            refused("drawn(" + n + ", 1)", x -> x.drawn(n, 1), NONE);
        }
        for (int n : new int[] {LEAST, -1, 0, 31, 60, GREATEST}) {
            refused("odds(0, " + n + ", 1)", x -> x.odds(0, n, 1), NONE);
        }
        for (int n : NO_SUCH) {
            refused("odds(" + n + ", 1, 1)", x -> x.odds(n, 1, 1), NONE);
        }
        int[] odds = new int[3];
        KeyLetters told = much();
        for (int m = 0; m < 3; m++) {
            odds[m] = told.odds(m, 30, 9);
            int machine = m;
            refused("odds of " + m, x -> x.odds(machine, 30, 9), odds[m]);
        }
        KeyLetters late = much();
        KeyLetters twin = much();
        for (int i = 0; i < 7; i++) {
            late.days(60);
            twin.days(60);
        }
        C.due("days when all are over", late.days(60), 0);
        C.due("drawn when all are over", late.drawn(60, 1), 0);
        same("DAYS when all are over", late, twin);
    }

    private static void asking() {
        for (int n : NO_SUCH) {
            refused("machine(" + n + ", 0)", x -> bit(machineThrows(x, n, 0)), 1);
            refused("part(" + n + ", 0)", x -> bit(partThrows(x, n, 0)), 1);
            refused("phrase(" + n + ", 0)", x -> x.phrase(n, 0), NONE);
            refused("owes(" + n + ", 0)", x -> x.owes(n, 0), NONE);
            refused("owes(0, " + n + ")", x -> x.owes(0, n), NONE);
            refused("comes(" + n + ")", x -> x.comes(n), NONE);
            refused("line(" + n + ")", x -> x.line(n), NONE);
        }
        for (int what : new int[] {LEAST, -2, -1, 8, 9, 32, GREATEST}) {
            refused("machine(0, " + what + ")", x -> bit(machineThrows(x, 0, what)), 1);
            refused("now(" + what + ")", x -> x.now(what), NONE);
        }
        for (int what : new int[] {LEAST, -2, -1, 5, 6, 32, GREATEST}) {
            refused("phrase(0, " + what + ")", x -> x.phrase(0, what), NONE);
        }
        for (int what : new int[] {LEAST, -2, -1, 2, 3, 32, GREATEST}) {
            refused("part(0, " + what + ")", x -> bit(partThrows(x, 0, what)), 1);
        }
        for (int what : new int[] {LEAST, -2, -1, 4, 5, 32, GREATEST}) {
            refused("count(" + what + ")", x -> x.count(what), NONE);
            refused("told(" + what + ")", x -> x.told(what), NONE);
        }
        for (int m = 0; m < 3; m++) {
            int machine = m;
            refused("owes of alike ones " + m, x -> x.owes(machine, machine), NONE);
        }
    }

    private static void answering() {
        answersAlone("silent()", KeyLetters::silent);
        answersAlone("fault()", KeyLetters::fault);
        answersAlone("comesAt(0)", x -> x.comesAt(0));
        answersAlone("waysAt(0)", x -> x.waysAt(0));
        answersAlone("ask()", KeyLetters::ask);
        answersAlone("look()", KeyLetters::look);
        answersAlone("byteAt(0)", x -> x.byteAt(0));
        answersAlone("said(-1)", x -> x.said(NONE));
        answersAlone("said(0)", x -> x.said(0));
        answersAlone("part(0, 0)", x -> x.part(0, 0));
        answersAlone("part(1, 1)", x -> x.part(1, 1));
        answersAlone("owes(0, 2)", x -> x.owes(0, 2));
        for (int i = 0; i < 8; i++) {
            int what = i;
            answersAlone("machine(1, " + i + ")", x -> x.machine(1, what));
            answersAlone("now(" + i + ")", x -> x.now(what));
            if (i < 5) {
                answersAlone("phrase(1, " + i + ")", x -> x.phrase(1, what));
            }
            if (i < 4) {
                answersAlone("count(" + i + ")", x -> x.count(what));
                answersAlone("told(" + i + ")", x -> x.told(what));
            }
        }
    }

    private static void answersAlone(String what, Call call) {
        refused(what, call, call.on(much()));
    }

    private static boolean machineThrows(KeyLetters x, int m, int what) {
        try {
            x.machine(m, what);
            return false;
        } catch (java.util.NoSuchElementException e) {
            return true;
        }
    }

    private static boolean partThrows(KeyLetters x, int m, int what) {
        try {
            x.part(m, what);
            return false;
        } catch (java.util.NoSuchElementException e) {
            return true;
        }
    }

    private static void rowsAndLetters() {
        refusedOfTape("ways of a byte that is no PHRASE", x -> Checks.ways(emptied(x), 0, 3), NONE);
        refusedOfTape("ways of no bytes", x -> emptied(x).ways(), NONE);
        refusedOfTape("ways of ten bytes", x -> Checks.ways(emptied(x), new int[10]), NONE);
        refusedOfTape("ways, none", x -> Checks.ways(emptied(x), 2, 2), 0);
        refusedOfTape("lacks of a byte that is no PHRASE", x -> Checks.lacks(emptied(x), 0, 255), NONE);
        refusedOfTape("lacks of no bytes", x -> emptied(x).lacks(), NONE);
        refusedOfTape("lacks of ten bytes", x -> Checks.lacks(emptied(x), new int[10]), NONE);
        refusedOfTape("lacks", x -> Checks.lacks(emptied(x), 1, 0), 1);
        refusedOfTape("faint of a capital", x -> Checks.faint(emptied(x), "B"), NONE);
        refusedOfTape("faint of no bytes", x -> emptied(x).faint(), NONE);
        refusedOfTape("faint of eight bytes", x -> Checks.faint(emptied(x), "????????"), NONE);
        refusedOfTape("faint, none", x -> Checks.faint(emptied(x), "qqqq"), 0);
        refusedOfTape("ship of 61", x -> Checks.ship(emptied(x), 61), NONE);
        refusedOfTape("ship of no bytes", x -> emptied(x).ship(), NONE);
        refusedOfTape("ship of seven bytes", x -> Checks.ship(emptied(x), 1, 1, 1, 1, 1, 1, 1), NONE);
        refusedOfTape("ship above 99999999", x -> Checks.ship(emptied(x), 53, 55, 56, 57, 58, 59), NONE);
        refusedOfTape("ship", x -> Checks.ship(emptied(x), 4, 6), 12);
    }

    private static KeyLetters emptied(KeyLetters x) {
        x.end(0);
        return x;
    }

    private static void readings() {
        for (int k : new int[] {LEAST, -2, -1, 48, 99, GREATEST}) {
            refused("comesAt(" + k + ")", x -> x.comesAt(k), NONE);
            refused("waysAt(" + k + ")", x -> x.waysAt(k), NONE);
            refused("byteAt(" + k + ")", x -> x.byteAt(k), NONE);
        }
        for (int k : new int[] {LEAST, -3, -2, 3, 6, 32, GREATEST}) {
            refused("said(" + k + ")", x -> x.said(k), NONE);
        }
        KeyLetters fresh = new KeyLetters();
        for (int k : new int[] {LEAST, -1, 0, 1, GREATEST}) {
            C.due("comesAt(" + k + ") ahead of any", fresh.comesAt(k), NONE);
            C.due("waysAt(" + k + ") ahead of any", fresh.waysAt(k), NONE);
            C.due("byteAt(" + k + ") ahead of any", fresh.byteAt(k), NONE);
            C.due("told(" + k + ") ahead of any", fresh.told(k), NONE);
            C.due("said(" + k + ") without a SENTENCE", fresh.said(k), NONE);
        }
        C.due("ask ahead of any", fresh.ask(), NONE);
        C.due("look ahead of any", fresh.look(), NONE);
        C.due("fault ahead of any", fresh.fault(), 0);
        C.due("undo ahead of any", fresh.undo(), NONE);
    }

    private static void books() {
        for (int lives : new int[] {LEAST, -1, 2, 3, GREATEST}) {
            refused("book(" + lives + ")", x -> x.book(lives), -1000);
        }
        refusedOfBook("a BOOK judged", 0, "roy leaves; rem ribbon 99; day 3; rem sits; rem sits;", 4);
        refusedOfBook("a BOOK judged as not WRONG", 0, "roy leaves; day 60;", NONE);
        refusedOfBook("a BOOK of which no LINE was lived", 1, "roy ribbon 1; day 9;", 0);
        refusedOfBook("a BOOK without LINES", 1, "", NONE);
    }

    /** What is told of it is all that it changes. */
    private static void refusedOfBook(String what, int lives, String text, int due) {
        KeyLetters x = much();
        KeyLetters twin = much();
        C.due(what, Checks.book(emptied(x), lives, text), due);
        C.due(what + ": is it WRONG", x.told(0) == 0, due == NONE);
        emptied(twin);
        sameButTold(what, x, twin);
    }

    private static void images() {
        for (int k : new int[] {LEAST, -2, -1, 2, 3, GREATEST}) {
            refused("image(" + k + ")", x -> bit(x.image(k)), 0);
            refused("restore(" + k + ")", x -> bit(x.restore(k)), 0);
        }
        refused("restore(0), nothing is kept there", x -> bit(x.restore(0)), 0);
    }

    private static void emptyOffice() {
        KeyLetters x = new KeyLetters();
        for (int n : new int[] {LEAST, -1, 0, 1, 5, 6, 7, 8, GREATEST}) {
            C.machineThrows(x, n, 0);
            C.partThrows(x, n, 0);
            C.due("phrase " + n, x.phrase(n, 0), NONE);
            C.due("owes " + n, x.owes(n, n + 1), NONE);
            C.due("write " + n, x.write(n, n), NONE);
            C.due("sit " + n, x.sit(n), NONE);
            C.due("leave " + n, x.leave(n), NONE);
            C.due("ribbon " + n, x.ribbon(n, 5), NONE);
            C.due("comes " + n, x.comes(n), NONE);
            C.due("line " + n, x.line(n), NONE);
            C.due("odds " + n, x.odds(n, 5, 1), NONE);
        }
        C.due("clear", x.clear(), 1);
        C.due("silent", x.silent(), 1);
        C.due("undo", x.undo(), NONE);
        C.due("ways", Checks.ways(x, 0), NONE);
        C.due("lacks", Checks.lacks(x, 0), NONE);
        C.due("faint", Checks.faint(x, "?"), 0);
        C.due("look", x.look(), NONE);
    }
}
