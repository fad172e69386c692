import java.util.NoSuchElementException;

/** An office of typewriters, told as a text on a tape: what it does and answers is promised in the document. */
public final class KeyLetters {
    public static final int NONE = -1;

    private static final int MOST_MACHINES = 6;
    private static final int MOST_PHRASES = 8;
    private static final int MOST_INK = 999;
    private static final int MOST_OWED = 9999;
    private static final int ALL_DAYS = 400;
    private static final int DAYS_AT_ONCE = 60;
    private static final int DAYS_LOOKED_AHEAD = 99;
    private static final int DAYS_OF_ODDS = 10;
    private static final int MOST_SEEDS = 30;
    private static final int MOST_PLACES = 9;
    private static final int MOST_LOSSES = 6;
    private static final int MOST_LOSS = 60;
    private static final int MOST_SHIP = 99999999;
    private static final int IMAGES = 2;
    private static final int TOLD_OF_A_BOOK = 4;
    private static final int NAME_LETTERS = 7;

    private static final int MOST_NUMBER = 999;

    private static final int TAPE_BYTES = 940;
    private static final int FED_BYTES = 20;
    private static final int OFFICE_BYTES = 900;
    private static final int BOOK_BYTES = 400;
    private static final int SENTENCE_BYTES = 200;
    private static final int OTHER_LIVES = -1000;

    // the kinds of FAULTS
    private static final int CANNOT_COME = 1;
    private static final int WRONG_NUMBER = 2;
    private static final int WRONG_NAME = 3;
    private static final int TOO_MANY = 4;

    // the acts; their numbers are the tens by which told(0) tells why one could not be done
    private static final int WRITES = 0;
    private static final int SITS = 10;
    private static final int LEAVES = 20;
    private static final int RIBBON = 30;
    private static final int CLEARS = 40;
    private static final int GOES_BY = 50;

    private final int[] tape;
    private int tapeBytes;
    private final Reader reader;
    private final Scene scene;
    private final Scene[] images;
    private final boolean[] imageKept;
    private final History history;
    private final Office readOffice;
    private final Sentence readSentence;
    private final Book readBook;
    private final State trial;
    private final Dice dice;
    private final Route route;
    private final Rows rows;
    private final int[] bookTold;
    private boolean bookWasTold;
    private int latestFault;
    private int lookPlace;
    private final StringBuilder latestLine;

    public KeyLetters() {
        tape = new int[TAPE_BYTES];
        reader = new Reader();
        scene = new Scene();
        images = new Scene[IMAGES];
        for (int i = 0; i < images.length; i++) {
            images[i] = new Scene();
        }
        imageKept = new boolean[IMAGES];
        history = new History();
        readOffice = new Office();
        readSentence = new Sentence();
        readBook = new Book();
        trial = new State();
        dice = new Dice();
        route = new Route();
        rows = new Rows();
        bookTold = new int[TOLD_OF_A_BOOK];
        lookPlace = NONE;
        latestLine = new StringBuilder();
    }

    public int feed(int a, int b, int c, int d, int e) {
        if (tapeBytes + FED_BYTES > TAPE_BYTES) {
            return NONE;
        }
        appendBytes(a);
        appendBytes(b);
        appendBytes(c);
        appendBytes(d);
        appendBytes(e);
        return tapeBytes;
    }

    public boolean end(int n) {
        if (n < 0 || n > tapeBytes) {
            return false;
        }
        tapeBytes = n;
        return true;
    }

    public int office() {
        reader.open(tape, takeTape(), OFFICE_BYTES);
        boolean read = readOffice.read(reader);
        latestFault = reader.faultKind;
        if (!read) {
            return -1 - reader.faultPlace;
        }
        scene.begin(readOffice);
        history.forget();
        return readOffice.lines;
    }

    public int fault() {
        return latestFault;
    }

    public int machine(int m, int what) throws NoSuchElementException {
        Office o = scene.office;
        State s = scene.state;
        if (!o.hasMachine(m)) {
            throw new NoSuchElementException();
        }
        switch (what) {
            case 0: return s.ink[m];
            case 1: return o.known[m];
            case 2: return s.isHeld(m) ? 1 : 0;
            case 3: return s.wrote[m];
            case 4: return s.letters[m];
            case 5: return s.phrasesAble(o, m);
            case 6: return s.owedBy(m);
            case 7: return s.owedTo(m);
            default: throw new NoSuchElementException();
        }
    }

    public int phrase(int p, int what) {
        Office o = scene.office;
        if (!o.hasPhrase(p)) {
            return NONE;
        }
        switch (what) {
            case 0: return o.sizes[p];
            case 1: return o.claims[p];
            case 2: return o.answers[p];
            case 3: return o.answeredBy(p);
            case 4: return o.machinesKnowing(p);
            default: return NONE;
        }
    }

    public int owes(int m, int k) {
        if (m == k || !scene.office.hasMachine(m) || !scene.office.hasMachine(k)) {
            return NONE;
        }
        return scene.state.debtOf(m, k);
    }

    public int now(int what) {
        State s = scene.state;
        switch (what) {
            case 0: return s.day;
            case 1: return s.latest;
            case 2: return s.writer;
            case 3: return s.held;
            case 4: return sumOf(s.wrote);
            case 5: return sumOf(s.letters);
            case 6: return s.lettersOver;
            case 7: return sumOf(s.debts);
            default: return NONE;
        }
    }

    public int write(int m, int p) {
        return doOne(WRITES, m, p);
    }

    public int sit(int m) {
        return doOne(SITS, m, 0);
    }

    public int leave(int m) {
        return doOne(LEAVES, m, 0);
    }

    public int ribbon(int m, int n) {
        return doOne(RIBBON, m, n);
    }

    public int clear() {
        return doOne(CLEARS, 0, 0);
    }

    public int days(int n) {
        if (!isDays(n)) {
            return NONE;
        }
        int going = Math.min(n, scene.state.daysLeft());
        if (going > 0) {
            history.keep(scene.state);
            scene.state.passDays(scene.office, going);
        }
        return going;
    }

    public int undo() {
        return history.takeBack(scene.state) ? history.size : NONE;
    }

    public int comes(int p) {
        return route.find(scene.office, scene.state, p);
    }

    public int comesAt(int k) {
        return k >= 0 && k < route.size ? route.steps[k] : NONE;
    }

    public int silent() {
        trial.copyFrom(scene.state);
        for (int i = 1; i <= DAYS_LOOKED_AHEAD; i++) {
            if (!trial.passDay(scene.office)) {
                return i;
            }
        }
        return NONE;
    }

    public int ways() {
        int places = takeTape();
        return tellsPhrases(places) ? rows.measure(scene.office, tape, places) : NONE;
    }

    public int waysAt(int k) {
        return k >= 0 && k < rows.size ? rows.first[k] : NONE;
    }

    public int ask() {
        return rows.askPlace;
    }

    public int lacks() {
        int places = takeTape();
        if (!tellsPhrases(places)) {
            return NONE;
        }
        long lacking = 0;
        for (int i = 1; i < places; i++) {
            if (!scene.office.isAnswer(tape[i], tape[i - 1])) {
                lacking |= 1L << (tape[i - 1] * MOST_PHRASES + tape[i]);
            }
        }
        return Long.bitCount(lacking);
    }

    public int faint() {
        int places = takeTape();
        if (!tellsFaintLetters(places)) {
            return NONE;
        }
        Office o = scene.office;
        int fitting = 0;
        for (int p = 0; p < o.phrases; p++) {
            if (fits(o.phraseNames[p], places)) {
                fitting |= 1 << p;
            }
        }
        if (fitting > 0) {
            lookPlace = placeToLook(fitting, places);
        }
        return fitting;
    }

    public int look() {
        return lookPlace;
    }

    public int ship() {
        int losses = takeTape();
        if (losses < 1 || losses > MOST_LOSSES) {
            return NONE;
        }
        long least = 1;
        for (int i = 0; i < losses; i++) {
            int loss = tape[i];
            if (loss < 1 || loss > MOST_LOSS) {
                return NONE;
            }
            least = least * (loss / commonDivisor((int) (least % loss), loss));
        }
        return least > MOST_SHIP ? NONE : (int) least;
    }

    public int part(int m, int what) throws NoSuchElementException {
        int all = sumOf(scene.state.letters);
        if (!scene.office.hasMachine(m) || what < 0 || what > 1 || all <= 0) {
            throw new NoSuchElementException();
        }
        int own = scene.state.letters[m];
        return (what == 0 ? own : all) / commonDivisor(own, all);
    }

    public int line(int m) {
        if (!scene.office.hasMachine(m)) {
            return NONE;
        }
        latestLine.setLength(0);
        appendName(scene.office.machineNames[m]);
        latestLine.append(" wrote ").append(scene.state.wrote[m]);
        latestLine.append(" ink ").append(scene.state.ink[m]);
        if (scene.state.isHeld(m)) {
            latestLine.append(" held");
        }
        return latestLine.length();
    }

    public int byteAt(int i) {
        return i >= 0 && i < latestLine.length() ? latestLine.charAt(i) : NONE;
    }

    public int drawn(int n, int seed) {
        if (!isDays(n)) {
            return NONE;
        }
        int going = Math.min(n, scene.state.daysLeft());
        if (going > 0) {
            history.keep(scene.state);
            dice.seed = seed;
            scene.state.drawDays(scene.office, dice, going);
        }
        return going;
    }

    public int odds(int m, int n, int seed) {
        if (!scene.office.hasMachine(m) || n < 1 || n > MOST_SEEDS) {
            return NONE;
        }
        int wroteMore = 0;
        for (int i = 0; i < n; i++) {
            trial.copyFrom(scene.state);
            dice.seed = seed + i;
            trial.drawDays(scene.office, dice, DAYS_OF_ODDS);
            if (trial.wrote[m] > scene.state.wrote[m]) {
                wroteMore++;
            }
        }
        return wroteMore;
    }

    public int book(int lives) {
        if (lives != 0 && lives != 1) {
            return OTHER_LIVES;
        }
        reader.open(tape, takeTape(), BOOK_BYTES);
        boolean read = readBook.read(reader, scene.office);
        latestFault = reader.faultKind;
        if (!read) {
            return -2 - reader.faultPlace;
        }
        trial.copyFrom(scene.state);
        readBook.live(scene.office, trial);
        bookWasTold = true;
        bookTold[0] = readBook.whyWrong;
        bookTold[1] = readBook.lived;
        bookTold[2] = trial.day;
        bookTold[3] = sumOf(trial.wrote);
        if (lives == 1 && readBook.lived > 0) {
            history.keep(scene.state);
            scene.state.copyFrom(trial);
        }
        return readBook.whyWrong == 0 ? NONE : readBook.lived;
    }

    public int told(int what) {
        return bookWasTold && what >= 0 && what < bookTold.length ? bookTold[what] : NONE;
    }

    public int sentence() {
        reader.open(tape, takeTape(), SENTENCE_BYTES);
        boolean read = readSentence.read(reader, scene.office);
        latestFault = reader.faultKind;
        if (!read) {
            return -1 - reader.faultPlace;
        }
        scene.sentence.copyFrom(readSentence);
        return readSentence.ones;
    }

    public int said(int k) {
        if (!scene.sentence.isTold() || k < NONE) {
            return NONE;
        }
        int fitting = scene.sentence.machinesOf(scene.office, scene.state);
        return k == NONE ? Integer.bitCount(fitting) : bitAt(fitting, k);
    }

    public boolean image(int k) {
        if (k < 0 || k >= images.length) {
            return false;
        }
        images[k].copyFrom(scene);
        imageKept[k] = true;
        return true;
    }

    public boolean restore(int k) {
        if (k < 0 || k >= images.length || !imageKept[k]) {
            return false;
        }
        scene.copyFrom(images[k]);
        history.forget();
        return true;
    }

    public int count(int what) {
        switch (what) {
            case 0: return scene.office.machines;
            case 1: return scene.office.phrases;
            case 2: return scene.office.answersTold;
            case 3: return tapeBytes;
            default: return NONE;
        }
    }

    private void appendBytes(int number) {
        for (int shift = 24; shift >= 0 && tapeBytes < TAPE_BYTES; shift -= 8) {
            tape[tapeBytes] = number >>> shift & 255;
            tapeBytes++;
        }
    }

    /** How many bytes the tape had: they can still be read until the next feed(), but it is empty now. */
    private int takeTape() {
        int bytes = tapeBytes;
        tapeBytes = 0;
        return bytes;
    }

    private int doOne(int act, int m, int n) {
        int why = scene.state.whyNot(scene.office, act, m, n);
        if (why == 0) {
            history.keep(scene.state);
            scene.state.perform(scene.office, act, m, n);
        }
        return why;
    }

    private boolean tellsPhrases(int places) {
        if (places < 1 || places > MOST_PLACES) {
            return false;
        }
        for (int i = 0; i < places; i++) {
            if (!scene.office.hasPhrase(tape[i])) {
                return false;
            }
        }
        return true;
    }

    private boolean tellsFaintLetters(int places) {
        if (places < 1 || places > NAME_LETTERS) {
            return false;
        }
        for (int i = 0; i < places; i++) {
            if (tape[i] != '?' && !isLetter(tape[i])) {
                return false;
            }
        }
        return true;
    }

    private boolean fits(long name, int places) {
        if (letterAt(name, places - 1) == 0 || letterAt(name, places) != 0) {
            return false;
        }
        for (int i = 0; i < places; i++) {
            if (tape[i] != '?' && tape[i] != letterAt(name, i)) {
                return false;
            }
        }
        return true;
    }

    private int placeToLook(int fitting, int places) {
        int best = 0;
        int bestLeft = MOST_PHRASES + 1;
        for (int i = 0; i < places; i++) {
            int left = mostAlikeAt(i, fitting);
            if (left < bestLeft) {
                best = i;
                bestLeft = left;
            }
        }
        return best;
    }

    private int mostAlikeAt(int place, int fitting) {
        Office o = scene.office;
        int most = 0;
        for (int p = 0; p < o.phrases; p++) {
            int alike = 0;
            for (int q = 0; q < o.phrases && hasBit(fitting, p); q++) {
                if (hasBit(fitting, q) && letterAt(o.phraseNames[p], place) == letterAt(o.phraseNames[q], place)) {
                    alike++;
                }
            }
            most = Math.max(most, alike);
        }
        return most;
    }

    private void appendName(long name) {
        for (int i = 0; i < NAME_LETTERS && letterAt(name, i) != 0; i++) {
            latestLine.append((char) letterAt(name, i));
        }
    }

    private static boolean isDays(int n) {
        return n >= 1 && n <= DAYS_AT_ONCE;
    }

    private static boolean isLetter(int b) {
        return b >= 'a' && b <= 'z';
    }

    private static boolean hasBit(int bits, int i) {
        return (bits >>> i & 1) == 1;
    }

    /** The k-th bit that is set, from the lowest on. */
    private static int bitAt(int bits, int k) {
        int left = k;
        for (int i = 0; i < MOST_MACHINES; i++) {
            if (hasBit(bits, i)) {
                if (left == 0) {
                    return i;
                }
                left--;
            }
        }
        return NONE;
    }

    private static int sumOf(int[] row) {
        int sum = 0;
        for (int i = 0; i < row.length; i++) {
            sum += row[i];
        }
        return sum;
    }

    /** The greatest number that divides both; 1 at the least, so that it may always divide. */
    private static int commonDivisor(int a, int b) {
        int greater = a;
        int lesser = b;
        // Euclid needs some 46 steps for the greatest ints
        for (int i = 0; i < 100 && lesser != 0; i++) {
            int rest = greater % lesser;
            greater = lesser;
            lesser = rest;
        }
        return Math.max(1, greater);
    }

    /** The letter at a place of a NAME; 0 where it has none. */
    private static int letterAt(long name, int place) {
        if (place < 0 || place >= NAME_LETTERS) {
            return 0;
        }
        return (int) (name >>> 8 * (NAME_LETTERS - 1 - place)) & 255;
    }

    private static int placeOf(long name, long[] names, int told) {
        for (int i = 0; i < told && i < names.length; i++) {
            if (names[i] == name) {
                return i;
            }
        }
        return NONE;
    }

    /** The WORDS that are no NAMES; OTHER stands for all the rest. */
    private enum Word {
        OTHER("", false), MACHINE("machine", false), PHRASE("phrase", false), KNOWS("knows", false),
        ANSWERS("answers", false), WRITES("writes", false), SITS("sits", false), LEAVES("leaves", false),
        RIBBON("ribbon", false), CLEAR("clear", false), DAY("day", false), OR("or", false), AND("and", false),
        NOT("not", true), HELD("held", true), LATEST("latest", true), MUTE("mute", true), ABLE("able", true),
        OWES("owes", true), INK("ink", true), WROTE("wrote", true), NUMBER("number", true);

        private final String text;
        private final boolean beginsOne;

        Word(String text, boolean beginsOne) {
            this.text = text;
            this.beginsOne = beginsOne;
        }
    }

    /** Reads a text TOKEN by TOKEN, one of them seen at a time, and keeps its FAULT. */
    private static final class Reader {
        private static final Word[] WORDS = Word.values();
        private static final int NO_TOKEN = 0;
        private static final int END = 1;
        private static final int WORD = 2;
        private static final int NUMBER = 3;
        private static final int SIGN = 4;
        private static final int MOST_DIGITS = 3;

        private int[] text = new int[0];
        private int bytes;
        private int most;
        private int next;
        private int sort;
        private int place;
        private Word word = Word.OTHER;
        // a byte for each letter, the first one highest: alike NAMES are alike numbers
        private long name;
        private int value;
        private int faultKind;
        private int faultPlace;

        private void open(int[] toRead, int bytesOfText, int mostBytes) {
            text = toRead;
            bytes = Math.min(bytesOfText, toRead.length);
            most = mostBytes;
            next = 0;
            faultKind = 0;
            faultPlace = 0;
            advance();
        }

        /** Sees the next TOKEN; where the text is too long none is at its bound, and that can't come anywhere. */
        private void advance() {
            int bound = Math.min(bytes, most);
            while (next < bound && (text[next] == ' ' || text[next] == '\n')) {
                next++;
            }
            word = Word.OTHER;
            if (next >= bound) {
                place = bound;
                sort = bytes > most ? NO_TOKEN : END;
                return;
            }
            place = next;
            readRun();
            if (next == place) {
                value = text[place];
                sort = isSignByte(value) ? SIGN : NO_TOKEN;
                next++;
            } else if (sort == WORD) {
                word = wordOf(next - place);
            }
        }

        /** Reads small letters and digits on past the bound, too: what begins ahead of it is read whole. */
        private void readRun() {
            int letters = 0;
            int digits = 0;
            name = 0;
            value = 0;
            while (next < bytes && (text[next] >= 'a' && text[next] <= 'z' || text[next] >= '0' && text[next] <= '9')) {
                if (text[next] >= 'a') {
                    if (letters < NAME_LETTERS) {
                        name |= (long) text[next] << 8 * (NAME_LETTERS - 1 - letters);
                    }
                    letters++;
                } else {
                    value = digits < MOST_DIGITS ? value * 10 + text[next] - '0' : value;
                    digits++;
                }
                next++;
            }
            if (digits == 0 && letters <= NAME_LETTERS) {
                sort = WORD;
            } else {
                sort = letters == 0 && digits <= MOST_DIGITS ? NUMBER : NO_TOKEN;
            }
        }

        private Word wordOf(int letters) {
            for (int w = 0; w < WORDS.length; w++) {
                String told = WORDS[w].text;
                boolean alike = told.length() == letters;
                for (int i = 0; alike && i < told.length() && place + i < bytes; i++) {
                    alike = told.charAt(i) == text[place + i];
                }
                if (alike) {
                    return WORDS[w];
                }
            }
            return Word.OTHER;
        }

        private static boolean isSignByte(int b) {
            return b == ';' || b == '<' || b == '=' || b == '>' || b == '(' || b == ')' || b == '.';
        }

        private boolean refuse(int kind) {
            faultKind = kind;
            faultPlace = place;
            return false;
        }

        private boolean seesEnd() {
            return sort == END;
        }

        private boolean seesWord(Word w) {
            return sort == WORD && word == w;
        }

        private boolean seesSign(int sign) {
            return sort == SIGN && value == sign;
        }

        private boolean needsEnd() {
            return seesEnd() || refuse(CANNOT_COME);
        }

        private boolean needsName() {
            return seesWord(Word.OTHER) || refuse(CANNOT_COME);
        }

        /** Which of these NAMES is seen; NONE, and a FAULT, if it is none of them. */
        private int neededOf(long[] names, int told) {
            if (!seesWord(Word.OTHER)) {
                refuse(CANNOT_COME);
                return NONE;
            }
            int found = placeOf(name, names, told);
            if (found == NONE) {
                refuse(WRONG_NAME);
            }
            return found;
        }

        private boolean needsNumber(int least, int greatest) {
            if (sort != NUMBER) {
                return refuse(CANNOT_COME);
            }
            return value >= least && value <= greatest || refuse(WRONG_NUMBER);
        }

        private boolean passSign(int sign) {
            if (!seesSign(sign)) {
                return refuse(CANNOT_COME);
            }
            advance();
            return true;
        }
    }

    /** What an OFFICE's text tells: nothing of it changes by what is done. */
    private static final class Office {
        private static final int MOST_CLAIM = 99;
        private static final int MOST_LONG = 40;

        private int lines;
        private int machines;
        private int phrases;
        private int answersTold;
        private final long[] machineNames = new long[MOST_MACHINES];
        private final int[] ink = new int[MOST_MACHINES];
        private final int[] known = new int[MOST_MACHINES];
        private final long[] phraseNames = new long[MOST_PHRASES];
        private final int[] sizes = new int[MOST_PHRASES];
        private final int[] claims = new int[MOST_PHRASES];
        private final int[] answers = new int[MOST_PHRASES];

        private void copyFrom(Office other) {
            lines = other.lines;
            machines = other.machines;
            phrases = other.phrases;
            answersTold = other.answersTold;
            System.arraycopy(other.machineNames, 0, machineNames, 0, MOST_MACHINES);
            System.arraycopy(other.ink, 0, ink, 0, MOST_MACHINES);
            System.arraycopy(other.known, 0, known, 0, MOST_MACHINES);
            System.arraycopy(other.phraseNames, 0, phraseNames, 0, MOST_PHRASES);
            System.arraycopy(other.sizes, 0, sizes, 0, MOST_PHRASES);
            System.arraycopy(other.claims, 0, claims, 0, MOST_PHRASES);
            System.arraycopy(other.answers, 0, answers, 0, MOST_PHRASES);
        }

        private boolean hasMachine(int m) {
            return m >= 0 && m < machines;
        }

        private boolean hasPhrase(int p) {
            return p >= 0 && p < phrases;
        }

        private boolean knowsOf(int m, int p) {
            return hasMachine(m) && hasPhrase(p) && hasBit(known[m], p);
        }

        private boolean isAnswer(int p, int ahead) {
            return hasPhrase(p) && hasPhrase(ahead) && hasBit(answers[ahead], p);
        }

        private int answeredBy(int p) {
            int bits = 0;
            for (int q = 0; q < phrases; q++) {
                if (isAnswer(p, q)) {
                    bits |= 1 << q;
                }
            }
            return bits;
        }

        private int machinesKnowing(int p) {
            int bits = 0;
            for (int m = 0; m < machines; m++) {
                if (knowsOf(m, p)) {
                    bits |= 1 << m;
                }
            }
            return bits;
        }

        private boolean read(Reader r) {
            lines = 0;
            machines = 0;
            phrases = 0;
            answersTold = 0;
            while (lines < OFFICE_BYTES && !r.seesEnd()) {
                if (!readLine(r) || !r.passSign(';')) {
                    return false;
                }
                lines++;
            }
            return r.needsEnd();
        }

        private boolean readLine(Reader r) {
            if (r.seesWord(Word.MACHINE)) {
                return readMachine(r);
            }
            if (r.seesWord(Word.PHRASE)) {
                return readPhrase(r);
            }
            if (r.seesWord(Word.KNOWS)) {
                return readKnows(r);
            }
            if (r.seesWord(Word.ANSWERS)) {
                return readAnswers(r);
            }
            return r.refuse(CANNOT_COME);
        }

        private boolean readMachine(Reader r) {
            if (machines >= MOST_MACHINES) {
                return r.refuse(TOO_MANY);
            }
            r.advance();
            if (!needsNewName(r)) {
                return false;
            }
            machineNames[machines] = r.name;
            r.advance();
            if (!r.needsNumber(0, MOST_INK)) {
                return false;
            }
            ink[machines] = r.value;
            known[machines] = 0;
            machines++;
            r.advance();
            return true;
        }

        private boolean readPhrase(Reader r) {
            if (phrases >= MOST_PHRASES) {
                return r.refuse(TOO_MANY);
            }
            r.advance();
            if (!needsNewName(r)) {
                return false;
            }
            phraseNames[phrases] = r.name;
            r.advance();
            if (!r.needsNumber(1, MOST_LONG)) {
                return false;
            }
            sizes[phrases] = r.value;
            r.advance();
            if (!r.needsNumber(0, MOST_CLAIM)) {
                return false;
            }
            claims[phrases] = r.value;
            answers[phrases] = 0;
            phrases++;
            r.advance();
            return true;
        }

        private boolean readKnows(Reader r) {
            r.advance();
            int m = r.neededOf(machineNames, machines);
            if (m == NONE) {
                return false;
            }
            r.advance();
            int p = r.neededOf(phraseNames, phrases);
            if (p == NONE) {
                return false;
            }
            if (knowsOf(m, p)) {
                return r.refuse(WRONG_NAME);
            }
            known[m] |= 1 << p;
            r.advance();
            return true;
        }

        private boolean readAnswers(Reader r) {
            r.advance();
            int p = r.neededOf(phraseNames, phrases);
            if (p == NONE) {
                return false;
            }
            r.advance();
            int ahead = r.neededOf(phraseNames, phrases);
            if (ahead == NONE) {
                return false;
            }
            if (isAnswer(p, ahead)) {
                return r.refuse(WRONG_NAME);
            }
            answers[ahead] |= 1 << p;
            answersTold++;
            r.advance();
            return true;
        }

        private boolean needsNewName(Reader r) {
            if (!r.needsName()) {
                return false;
            }
            boolean isNew = placeOf(r.name, machineNames, machines) == NONE
                    && placeOf(r.name, phraseNames, phrases) == NONE;
            return isNew || r.refuse(WRONG_NAME);
        }
    }

    /** All that is so in an OFFICE by what was done. */
    private static final class State {
        private int day;
        private int latest;
        private int writer;
        private int held;
        private int lettersOver;
        private final int[] ink = new int[MOST_MACHINES];
        private final int[] wrote = new int[MOST_MACHINES];
        private final int[] letters = new int[MOST_MACHINES];
        private final int[] debts = new int[MOST_MACHINES * MOST_MACHINES];

        private State() {
            latest = NONE;
            writer = NONE;
        }

        private void begin(Office o) {
            day = 0;
            latest = NONE;
            writer = NONE;
            held = 0;
            lettersOver = 0;
            for (int m = 0; m < MOST_MACHINES; m++) {
                ink[m] = o.ink[m];
                wrote[m] = 0;
                letters[m] = 0;
            }
            for (int i = 0; i < debts.length; i++) {
                debts[i] = 0;
            }
        }

        private void copyFrom(State other) {
            day = other.day;
            latest = other.latest;
            writer = other.writer;
            held = other.held;
            lettersOver = other.lettersOver;
            System.arraycopy(other.ink, 0, ink, 0, MOST_MACHINES);
            System.arraycopy(other.wrote, 0, wrote, 0, MOST_MACHINES);
            System.arraycopy(other.letters, 0, letters, 0, MOST_MACHINES);
            System.arraycopy(other.debts, 0, debts, 0, debts.length);
        }

        private boolean isHeld(int m) {
            return hasBit(held, m);
        }

        private int daysLeft() {
            return ALL_DAYS - day;
        }

        private int debtOf(int m, int k) {
            if (m < 0 || m >= MOST_MACHINES || k < 0 || k >= MOST_MACHINES) {
                return 0;
            }
            return debts[m * MOST_MACHINES + k];
        }

        private void setDebt(int m, int k, int coins) {
            if (m >= 0 && m < MOST_MACHINES && k >= 0 && k < MOST_MACHINES) {
                debts[m * MOST_MACHINES + k] = coins;
            }
        }

        private int owedBy(int m) {
            int sum = 0;
            for (int k = 0; k < MOST_MACHINES; k++) {
                sum += debtOf(m, k);
            }
            return sum;
        }

        private int owedTo(int m) {
            int sum = 0;
            for (int k = 0; k < MOST_MACHINES; k++) {
                sum += debtOf(k, m);
            }
            return sum;
        }

        /** 0 if the act can be done, or why not; NONE for a MACHINE, a PHRASE or a RIBBON that there is not. */
        private int whyNot(Office o, int act, int m, int n) {
            if (act == CLEARS) {
                return owesBothWays() ? 0 : 1;
            }
            if (act == GOES_BY) {
                return n > daysLeft() ? 1 : 0;
            }
            if (!o.hasMachine(m)) {
                return NONE;
            }
            if (act == WRITES) {
                return whyNotWrite(o, m, n);
            }
            if (act == SITS) {
                return isHeld(m) ? 1 : 0;
            }
            if (act == LEAVES) {
                return isHeld(m) ? 0 : 1;
            }
            if (n < 1 || n > MOST_INK) {
                return NONE;
            }
            return ink[m] >= n ? 1 : 0;
        }

        private int whyNotWrite(Office o, int m, int p) {
            if (!o.hasMachine(m) || !o.hasPhrase(p)) {
                return NONE;
            }
            if (isHeld(m)) {
                return 1;
            }
            if (latest != NONE && writer == m) {
                return 2;
            }
            if (!o.knowsOf(m, p)) {
                return 3;
            }
            if (latest != NONE && !o.isAnswer(p, latest)) {
                return 4;
            }
            return ink[m] < o.sizes[p] ? 5 : 0;
        }

        private int phrasesAble(Office o, int m) {
            int bits = 0;
            for (int p = 0; p < o.phrases; p++) {
                if (whyNotWrite(o, m, p) == 0) {
                    bits |= 1 << p;
                }
            }
            return bits;
        }

        /** Does an act, but for days, of which whyNot() is 0. */
        private void perform(Office o, int act, int m, int n) {
            if (act == CLEARS) {
                settle();
            } else if (act == WRITES) {
                put(o, m, n);
            } else if (act == RIBBON && o.hasMachine(m)) {
                ink[m] = n;
            } else if (act == SITS) {
                held |= 1 << m;
            } else if (act == LEAVES) {
                held &= ~(1 << m);
            }
        }

        private void performIfItCan(Office o, int act, int m, int n) {
            if (whyNot(o, act, m, n) == 0) {
                perform(o, act, m, n);
            }
        }

        private void put(Office o, int m, int p) {
            if (!o.hasMachine(m) || !o.hasPhrase(p)) {
                return;
            }
            ink[m] -= o.sizes[p];
            wrote[m]++;
            letters[m] += o.sizes[p];
            if (latest != NONE) {
                setDebt(writer, m, Math.min(MOST_OWED, debtOf(writer, m) + o.claims[p]));
            }
            latest = p;
            writer = m;
        }

        private boolean owesBothWays() {
            for (int m = 0; m < MOST_MACHINES; m++) {
                for (int k = 0; k < m; k++) {
                    if (debtOf(m, k) > 0 && debtOf(k, m) > 0) {
                        return true;
                    }
                }
            }
            return false;
        }

        private void settle() {
            for (int m = 0; m < MOST_MACHINES; m++) {
                for (int k = 0; k < m; k++) {
                    int lesser = Math.min(debtOf(m, k), debtOf(k, m));
                    setDebt(m, k, debtOf(m, k) - lesser);
                    setDebt(k, m, debtOf(k, m) - lesser);
                }
            }
        }

        private void passDays(Office o, int n) {
            for (int i = 0; i < n; i++) {
                passDay(o);
            }
        }

        /** A DAY goes: whether one wrote. */
        private boolean passDay(Office o) {
            boolean written = writeByTurn(o);
            if (!written && latest != NONE) {
                latest = NONE;
                writer = NONE;
                lettersOver++;
            }
            day++;
            return written;
        }

        private boolean writeByTurn(Office o) {
            for (int i = 1; i <= o.machines; i++) {
                // without a LATEST the writer is NONE, which is just ahead of 0
                int m = (writer + i) % o.machines;
                for (int p = 0; p < o.phrases; p++) {
                    if (whyNotWrite(o, m, p) == 0) {
                        put(o, m, p);
                        return true;
                    }
                }
            }
            return false;
        }

        private void drawDays(Office o, Dice dice, int n) {
            for (int i = 0; i < n && day < ALL_DAYS; i++) {
                drawAct(o, dice);
                passDay(o);
            }
        }

        private void drawAct(Office o, Dice dice) {
            if (o.machines == 0) {
                return;
            }
            int act = dice.draw(8);
            if (act == 0) {
                int m = dice.draw(o.machines);
                performIfItCan(o, isHeld(m) ? LEAVES : SITS, m, 0);
            } else if (act == 1) {
                int m = dice.draw(o.machines);
                performIfItCan(o, RIBBON, m, dice.draw(60) + 1);
            } else if (act <= 4 && o.phrases > 0) {
                int m = dice.draw(o.machines);
                performIfItCan(o, WRITES, m, dice.draw(o.phrases));
            }
        }
    }

    private static final class Dice {
        private int seed;

        private int draw(int n) {
            seed = seed * 1103515245 + 12345;
            return n > 0 ? (seed >>> 8) % n : 0;
        }
    }

    /** The LINES of a BOOK that was read. */
    private static final class Book {
        private static final int MOST_LINES = 40;

        private int lines;
        private int lived;
        private int whyWrong;
        private final int[] acts = new int[MOST_LINES];
        private final int[] machines = new int[MOST_LINES];
        private final int[] numbers = new int[MOST_LINES];

        private boolean read(Reader r, Office o) {
            lines = 0;
            for (int i = 0; i <= MOST_LINES && !r.seesEnd(); i++) {
                if (!readLine(r, o) || !r.passSign(';')) {
                    return false;
                }
            }
            return r.needsEnd();
        }

        private boolean readLine(Reader r, Office o) {
            boolean ofMachine = !r.seesWord(Word.CLEAR) && !r.seesWord(Word.DAY);
            int m = ofMachine ? r.neededOf(o.machineNames, o.machines) : NONE;
            if (ofMachine && m == NONE) {
                return false;
            }
            if (lines >= MOST_LINES) {
                return r.refuse(TOO_MANY);
            }
            machines[lines] = m;
            numbers[lines] = 0;
            lines++;
            if (ofMachine) {
                r.advance();
                return readMachineAct(r, o);
            }
            if (r.seesWord(Word.CLEAR)) {
                return passAct(r, CLEARS);
            }
            return passAct(r, GOES_BY) && passNumber(r, DAYS_AT_ONCE);
        }

        private boolean readMachineAct(Reader r, Office o) {
            if (r.seesWord(Word.WRITES)) {
                return passAct(r, WRITES) && passPhrase(r, o);
            }
            if (r.seesWord(Word.SITS)) {
                return passAct(r, SITS);
            }
            if (r.seesWord(Word.LEAVES)) {
                return passAct(r, LEAVES);
            }
            if (r.seesWord(Word.RIBBON)) {
                return passAct(r, RIBBON) && passNumber(r, MOST_INK);
            }
            return r.refuse(CANNOT_COME);
        }

        /** Passes the WORD that tells the act of the newest LINE. */
        private boolean passAct(Reader r, int act) {
            if (lines >= 1 && lines <= MOST_LINES) {
                acts[lines - 1] = act;
            }
            r.advance();
            return true;
        }

        private boolean passPhrase(Reader r, Office o) {
            int p = r.neededOf(o.phraseNames, o.phrases);
            if (p == NONE) {
                return false;
            }
            keepNumber(p);
            r.advance();
            return true;
        }

        private boolean passNumber(Reader r, int greatest) {
            if (!r.needsNumber(1, greatest)) {
                return false;
            }
            keepNumber(r.value);
            r.advance();
            return true;
        }

        private void keepNumber(int number) {
            if (lines >= 1 && lines <= MOST_LINES) {
                numbers[lines - 1] = number;
            }
        }

        /** Does what its LINES tell, one by one, as far as none is WRONG. */
        private void live(Office o, State s) {
            lived = 0;
            whyWrong = 0;
            for (int i = 0; i < lines && i < MOST_LINES; i++) {
                int why = s.whyNot(o, acts[i], machines[i], numbers[i]);
                if (why != 0) {
                    whyWrong = acts[i] + why;
                    return;
                }
                if (acts[i] == GOES_BY) {
                    s.passDays(o, numbers[i]);
                } else {
                    s.perform(o, acts[i], machines[i], numbers[i]);
                }
                lived++;
            }
        }
    }

    /** A SENTENCE, kept so that each 'not', 'and' and 'or' stands behind what it is said of. */
    private static final class Sentence {
        private static final int MOST_ONES = 20;
        private static final int MOST_WITHIN = 8;

        private int ones;
        private int size;
        // 20 ONES at most, and one 'and' or 'or' less than that between them
        private final Word[] words = new Word[2 * MOST_ONES];
        private final int[] signs = new int[2 * MOST_ONES];
        private final int[] numbers = new int[2 * MOST_ONES];
        private final int[] open = new int[MOST_ONES];

        private boolean isTold() {
            return size > 0;
        }

        private void forget() {
            ones = 0;
            size = 0;
        }

        private void copyFrom(Sentence other) {
            ones = other.ones;
            size = other.size;
            for (int i = 0; i < words.length; i++) {
                words[i] = other.words[i];
                signs[i] = other.signs[i];
                numbers[i] = other.numbers[i];
            }
        }

        private boolean read(Reader r, Office o) {
            forget();
            return readCond(r, o, 1) && r.needsEnd();
        }

        private boolean readCond(Reader r, Office o, int depth) {
            if (!readAll(r, o, depth)) {
                return false;
            }
            for (int i = 0; i < MOST_ONES && r.seesWord(Word.OR); i++) {
                r.advance();
                if (!readAll(r, o, depth)) {
                    return false;
                }
                keepWord(Word.OR, 0, 0);
            }
            return true;
        }

        private boolean readAll(Reader r, Office o, int depth) {
            if (!readOne(r, o, depth)) {
                return false;
            }
            for (int i = 0; i < MOST_ONES && r.seesWord(Word.AND); i++) {
                r.advance();
                if (!readOne(r, o, depth)) {
                    return false;
                }
                keepWord(Word.AND, 0, 0);
            }
            return true;
        }

        /** Reads a ONE that stands within depth - 1 others; a ninth within is refused, so it goes no deeper. */
        private boolean readOne(Reader r, Office o, int depth) {
            boolean bracket = r.seesSign('(');
            Word word = r.word;
            if (!bracket && !word.beginsOne) {
                return r.refuse(CANNOT_COME);
            }
            if (ones >= MOST_ONES || depth > MOST_WITHIN) {
                return r.refuse(TOO_MANY);
            }
            ones++;
            r.advance();
            if (bracket) {
                return readCond(r, o, depth + 1) && r.passSign(')');
            }
            if (word == Word.NOT) {
                return readOne(r, o, depth + 1) && keepWord(Word.NOT, 0, 0);
            }
            if (word == Word.ABLE) {
                return readNamed(r, word, o.phraseNames, o.phrases);
            }
            if (word == Word.OWES) {
                return readNamed(r, word, o.machineNames, o.machines);
            }
            if (word == Word.INK || word == Word.WROTE || word == Word.NUMBER) {
                return readComparison(r, word);
            }
            return keepWord(word, 0, 0);
        }

        private boolean readNamed(Reader r, Word word, long[] names, int told) {
            int named = r.neededOf(names, told);
            if (named == NONE) {
                return false;
            }
            r.advance();
            return keepWord(word, 0, named);
        }

        private boolean readComparison(Reader r, Word word) {
            if (!r.seesSign('<') && !r.seesSign('=') && !r.seesSign('>')) {
                return r.refuse(CANNOT_COME);
            }
            int sign = r.value;
            r.advance();
            if (!r.needsNumber(0, MOST_NUMBER)) {
                return false;
            }
            int number = r.value;
            r.advance();
            return keepWord(word, sign, number);
        }

        private boolean keepWord(Word word, int sign, int number) {
            if (size < words.length) {
                words[size] = word;
                signs[size] = sign;
                numbers[size] = number;
                size++;
            }
            return true;
        }

        /** The MACHINES of which it may be said, as bits. */
        private int machinesOf(Office o, State s) {
            int all = (1 << o.machines) - 1;
            int height = 0;
            for (int i = 0; i < size && i < words.length; i++) {
                Word word = words[i];
                if (word == Word.NOT && height >= 1) {
                    open[height - 1] = all & ~open[height - 1];
                } else if (word == Word.AND && height >= 2) {
                    height--;
                    open[height - 1] &= open[height];
                } else if (word == Word.OR && height >= 2) {
                    height--;
                    open[height - 1] |= open[height];
                } else if (height < open.length) {
                    open[height] = machinesOfPlain(i, o, s);
                    height++;
                }
            }
            return height > 0 ? open[0] : 0;
        }

        private int machinesOfPlain(int i, Office o, State s) {
            int bits = 0;
            for (int m = 0; m < o.machines; m++) {
                if (isSo(i, m, o, s)) {
                    bits |= 1 << m;
                }
            }
            return bits;
        }

        private boolean isSo(int i, int m, Office o, State s) {
            if (i < 0 || i >= words.length || !o.hasMachine(m)) {
                return false;
            }
            Word word = words[i];
            if (word == Word.HELD) {
                return s.isHeld(m);
            }
            if (word == Word.LATEST) {
                return s.writer == m;
            }
            if (word == Word.MUTE) {
                return s.phrasesAble(o, m) == 0;
            }
            if (word == Word.ABLE) {
                return s.whyNotWrite(o, m, numbers[i]) == 0;
            }
            if (word == Word.OWES) {
                return s.debtOf(m, numbers[i]) > 0;
            }
            int left = word == Word.INK ? s.ink[m] : word == Word.WROTE ? s.wrote[m] : m;
            return signs[i] == '<' ? left < numbers[i] : signs[i] == '>' ? left > numbers[i] : left == numbers[i];
        }
    }

    /** An OFFICE, all that is so in it, and the SENTENCE: what an image keeps. */
    private static final class Scene {
        private final Office office = new Office();
        private final State state = new State();
        private final Sentence sentence = new Sentence();

        private void begin(Office told) {
            office.copyFrom(told);
            state.begin(told);
            sentence.forget();
        }

        private void copyFrom(Scene other) {
            office.copyFrom(other.office);
            state.copyFrom(other.state);
            sentence.copyFrom(other.sentence);
        }
    }

    /** What was so ahead of each of the latest acts. */
    private static final class History {
        private static final int KEPT = 8;

        private int size;
        private int oldest;
        private final State[] states;

        private History() {
            states = new State[KEPT];
            for (int i = 0; i < KEPT; i++) {
                states[i] = new State();
            }
        }

        private void forget() {
            size = 0;
        }

        private void keep(State s) {
            if (size == KEPT) {
                oldest = (oldest + 1) % KEPT;
                size--;
            }
            states[(oldest + size) % KEPT].copyFrom(s);
            size++;
        }

        private boolean takeBack(State s) {
            if (size == 0) {
                return false;
            }
            size--;
            s.copyFrom(states[(oldest + size) % KEPT]);
            return true;
        }
    }

    /** The fewest phrases by which one COMES; a step is 8 by its MACHINE and its PHRASE. */
    private static final class Route {
        private static final int STEPS = MOST_MACHINES * MOST_PHRASES;

        private final int[] stillToGo = new int[STEPS];
        private final int[] queue = new int[STEPS];
        private final int[] steps = new int[STEPS];
        private int size;

        private int find(Office o, State s, int target) {
            measure(o, s, target);
            int step = nearest(o, s.writer, s.latest);
            if (step == NONE) {
                return NONE;
            }
            size = stillToGo[step] + 1;
            steps[0] = step;
            for (int i = 1; i < size && i < STEPS && step != NONE; i++) {
                step = nearest(o, step / MOST_PHRASES, step % MOST_PHRASES);
                steps[i] = step;
            }
            return size;
        }

        /** For each step how many more are to follow it until the target is written; NONE where it never is. */
        private void measure(Office o, State s, int target) {
            int queued = 0;
            for (int step = 0; step < STEPS; step++) {
                stillToGo[step] = NONE;
                if (step % MOST_PHRASES == target && canBe(o, s, step)) {
                    stillToGo[step] = 0;
                    queue[queued] = step;
                    queued++;
                }
            }
            for (int i = 0; i < queued && i < STEPS; i++) {
                int behind = queue[i];
                for (int step = 0; step < STEPS && queued < STEPS; step++) {
                    if (stillToGo[step] == NONE && canBe(o, s, step)
                            && follows(o, step / MOST_PHRASES, step % MOST_PHRASES, behind)) {
                        stillToGo[step] = stillToGo[behind] + 1;
                        queue[queued] = step;
                        queued++;
                    }
                }
            }
        }

        private static boolean canBe(Office o, State s, int step) {
            int m = step / MOST_PHRASES;
            return !s.isHeld(m) && o.knowsOf(m, step % MOST_PHRASES);
        }

        private static boolean follows(Office o, int machineAhead, int phraseAhead, int step) {
            if (phraseAhead == NONE) {
                return true;
            }
            return step / MOST_PHRASES != machineAhead && o.isAnswer(step % MOST_PHRASES, phraseAhead);
        }

        /** The first of the steps that have the fewest to go behind them. */
        private int nearest(Office o, int machineAhead, int phraseAhead) {
            int best = NONE;
            for (int step = 0; step < STEPS; step++) {
                if (stillToGo[step] != NONE && follows(o, machineAhead, phraseAhead, step)
                        && (best == NONE || stillToGo[step] < stillToGo[best])) {
                    best = step;
                }
            }
            return best;
        }
    }

    /** In how many WAYS a row of PHRASES can have been written, counted from both its ends. */
    private static final class Rows {
        private final int[][] upTo = new int[MOST_PLACES][MOST_MACHINES];
        private final int[][] from = new int[MOST_PLACES][MOST_MACHINES];
        private final int[] first = new int[MOST_PLACES];
        private int size;
        private int askPlace = NONE;

        private int measure(Office o, int[] phrases, int places) {
            if (places < 1 || places > MOST_PLACES || places > phrases.length) {
                return 0;
            }
            for (int i = 0; i < places; i++) {
                for (int m = 0; m < MOST_MACHINES; m++) {
                    upTo[i][m] = o.knowsOf(m, phrases[i]) ? i == 0 ? 1 : sumWithout(upTo[i - 1], m) : 0;
                }
            }
            for (int i = places - 1; i >= 0; i--) {
                for (int m = 0; m < MOST_MACHINES; m++) {
                    from[i][m] = o.knowsOf(m, phrases[i]) ? i == places - 1 ? 1 : sumWithout(from[i + 1], m) : 0;
                }
            }
            int all = sumOf(from[0]);
            if (all > 0) {
                size = places;
                keepFirst();
                keepAskPlace();
            }
            return all;
        }

        private static int sumWithout(int[] row, int m) {
            return m >= 0 && m < row.length ? sumOf(row) - row[m] : 0;
        }

        private void keepFirst() {
            int ahead = NONE;
            for (int i = 0; i < size && i < MOST_PLACES; i++) {
                int m = 0;
                while (m < MOST_MACHINES - 1 && (m == ahead || from[i][m] == 0)) {
                    m++;
                }
                first[i] = m;
                ahead = m;
            }
        }

        private void keepAskPlace() {
            int least = 0;
            for (int i = 0; i < size && i < MOST_PLACES; i++) {
                int most = 0;
                for (int m = 0; m < MOST_MACHINES; m++) {
                    most = Math.max(most, upTo[i][m] * from[i][m]);
                }
                if (i == 0 || most < least) {
                    least = most;
                    askPlace = i;
                }
            }
        }
    }
}
