import java.util.ArrayDeque;
import java.util.ArrayList;
import java.util.Arrays;
import java.util.Deque;
import java.util.HashMap;
import java.util.HashSet;
import java.util.LinkedHashMap;
import java.util.List;
import java.util.Map;
import java.util.NoSuchElementException;
import java.util.Set;
import java.util.function.Predicate;
import java.util.regex.Matcher;
import java.util.regex.Pattern;

/**
 * The document told a second time, with the Java library and in other ways than the program's (lists of all rows,
 * texts, trees), so that random runs can be compared with it.
 */
final class Model {
    static final int NONE = -1;
    private static final Set<String> NO_NAMES = new HashSet<>(Arrays.asList("machine", "phrase", "knows", "answers",
            "writes", "sits", "leaves", "ribbon", "clear", "day", "or", "and", "not", "held", "latest", "mute", "able",
            "owes", "ink", "wrote", "number"));

    private static final class Fault extends RuntimeException {
        private static final long serialVersionUID = 1;
        final int kind;
        final int place;

        Fault(int kind, int place) {
            this.kind = kind;
            this.place = place;
        }
    }

    private static final class Token {
        final int place;
        final String text;

        Token(int place, String text) {
            this.place = place;
            this.text = text;
        }

        boolean isWord() {
            return text.matches("[a-z]{1,7}");
        }

        boolean isNumber() {
            return text.matches("[0-9]{1,3}");
        }

        boolean isName() {
            return isWord() && !NO_NAMES.contains(text);
        }
    }

    private static final class Text {
        private final List<Token> tokens = new ArrayList<>();
        private int at;

        Text(String all, int most) {
            Matcher m = Pattern.compile("[a-z0-9]+|[^ \\n]", Pattern.DOTALL).matcher(all);
            while (m.find() && m.start() < most) {
                tokens.add(new Token(m.start(), m.group()));
            }
            // neither of these two is a TOKEN; the first one can't come anywhere
            tokens.add(all.length() > most ? new Token(most, "too long") : new Token(all.length(), ""));
        }

        Token next() {
            return tokens.get(at++);
        }

        boolean sees(String text) {
            return tokens.get(at).text.equals(text);
        }

        boolean isOver() {
            return sees("");
        }

        Token sign(String signs) {
            Token t = next();
            if (t.text.length() != 1 || signs.indexOf(t.text.charAt(0)) < 0) {
                throw new Fault(1, t.place);
            }
            return t;
        }

        int number(int least, int most) {
            Token t = next();
            if (!t.isNumber()) {
                throw new Fault(1, t.place);
            }
            int n = Integer.parseInt(t.text);
            if (n < least || n > most) {
                throw new Fault(2, t.place);
            }
            return n;
        }

        Token name() {
            Token t = next();
            if (!t.isName()) {
                throw new Fault(1, t.place);
            }
            return t;
        }

        int nameOf(List<String> names) {
            Token t = name();
            if (!names.contains(t.text)) {
                throw new Fault(3, t.place);
            }
            return names.indexOf(t.text);
        }
    }

    private static final class World {
        List<String> machines = new ArrayList<>();
        List<String> phrases = new ArrayList<>();
        List<Integer> longs = new ArrayList<>();
        List<Integer> claims = new ArrayList<>();
        Set<List<Integer>> knows = new HashSet<>();
        Set<List<Integer>> answers = new HashSet<>();
        Predicate<Integer> sentence;
        int lines;
        Now now = new Now();
    }

    private static final class Now implements Cloneable {
        int day;
        Integer latest;
        Integer writer;
        int over;
        Set<Integer> girls = new HashSet<>();
        int[] ink = new int[6];
        int[] wrote = new int[6];
        int[] letters = new int[6];
        Map<List<Integer>, Integer> owed = new HashMap<>();

        Now copy() {
            Now n = new Now();
            n.day = day;
            n.latest = latest;
            n.writer = writer;
            n.over = over;
            n.girls = new HashSet<>(girls);
            n.ink = ink.clone();
            n.wrote = wrote.clone();
            n.letters = letters.clone();
            n.owed = new HashMap<>(owed);
            return n;
        }

        int owed(int m, int k) {
            return owed.getOrDefault(List.of(m, k), 0);
        }
    }

    private String tape = "";
    private World w = new World();
    private final Deque<Now> before = new ArrayDeque<>();
    private final Map<Integer, World> images = new HashMap<>();
    private int fault;
    private List<Integer> comesTold;
    private List<Integer> waysTold;
    private int askTold = NONE;
    private int lookTold = NONE;
    private String lineTold = "";
    private int[] bookTold;

    private String take() {
        String t = tape;
        tape = "";
        return t;
    }

    int feed(int... numbers) {
        if (tape.length() + 20 > 940) {
            return NONE;
        }
        StringBuilder more = new StringBuilder(tape);
        for (int n : numbers) {
            more.append((char) (n >> 24 & 255)).append((char) (n >> 16 & 255));
            more.append((char) (n >> 8 & 255)).append((char) (n & 255));
        }
        tape = more.toString();
        return tape.length();
    }

    boolean end(int n) {
        if (n < 0 || n > tape.length()) {
            return false;
        }
        tape = tape.substring(0, n);
        return true;
    }

    int office() {
        Text t = new Text(take(), 900);
        World told = new World();
        try {
            for (; !t.isOver(); told.lines++) {
                officeLine(t, told);
                t.sign(";");
            }
        } catch (Fault f) {
            fault = f.kind;
            return -1 - f.place;
        }
        fault = 0;
        w = told;
        before.clear();
        return told.lines;
    }

    private static void officeLine(Text t, World told) {
        Token first = t.next();
        switch (first.text) {
            case "machine": {
                if (told.machines.size() == 6) {
                    throw new Fault(4, first.place);
                }
                newName(t, told, told.machines);
                told.now.ink[told.machines.size() - 1] = t.number(0, 999);
                break;
            }
            case "phrase": {
                if (told.phrases.size() == 8) {
                    throw new Fault(4, first.place);
                }
                newName(t, told, told.phrases);
                told.longs.add(t.number(1, 40));
                told.claims.add(t.number(0, 99));
                break;
            }
            case "knows":
                twoTogether(t, told.machines, told.phrases, told.knows);
                break;
            case "answers":
                twoTogether(t, told.phrases, told.phrases, told.answers);
                break;
            default:
                throw new Fault(1, first.place);
        }
    }

    private static void newName(Text t, World told, List<String> into) {
        Token name = t.name();
        if (told.machines.contains(name.text) || told.phrases.contains(name.text)) {
            throw new Fault(3, name.place);
        }
        into.add(name.text);
    }

    private static void twoTogether(Text t, List<String> left, List<String> right, Set<List<Integer>> into) {
        int a = t.nameOf(left);
        int place = t.tokens.get(t.at).place;
        int b = t.nameOf(right);
        if (!into.add(List.of(a, b))) {
            throw new Fault(3, place);
        }
    }

    int fault() {
        return fault;
    }

    private boolean hasM(int m) {
        return m >= 0 && m < w.machines.size();
    }

    private boolean hasP(int p) {
        return p >= 0 && p < w.phrases.size();
    }

    int machine(int m, int what) {
        if (!hasM(m) || what < 0 || what > 7) {
            throw new NoSuchElementException();
        }
        int sum = 0;
        switch (what) {
            case 0: return w.now.ink[m];
            case 1: return bits(w.phrases.size(), p -> w.knows.contains(List.of(m, p)));
            case 2: return w.now.girls.contains(m) ? 1 : 0;
            case 3: return w.now.wrote[m];
            case 4: return w.now.letters[m];
            case 5: return bits(w.phrases.size(), p -> whyNotWrite(w.now, m, p) == 0);
            case 6:
                for (int k = 0; k < 6; k++) {
                    sum += w.now.owed(m, k);
                }
                return sum;
            default:
                for (int k = 0; k < 6; k++) {
                    sum += w.now.owed(k, m);
                }
                return sum;
        }
    }

    private static int bits(int n, Predicate<Integer> is) {
        int bits = 0;
        for (int i = 0; i < n; i++) {
            bits += is.test(i) ? 1 << i : 0;
        }
        return bits;
    }

    int phrase(int p, int what) {
        if (!hasP(p)) {
            return NONE;
        }
        switch (what) {
            case 0: return w.longs.get(p);
            case 1: return w.claims.get(p);
            case 2: return bits(w.phrases.size(), q -> w.answers.contains(List.of(q, p)));
            case 3: return bits(w.phrases.size(), q -> w.answers.contains(List.of(p, q)));
            case 4: return bits(w.machines.size(), m -> w.knows.contains(List.of(m, p)));
            default: return NONE;
        }
    }

    int owes(int m, int k) {
        return m != k && hasM(m) && hasM(k) ? w.now.owed(m, k) : NONE;
    }

    int now(int what) {
        switch (what) {
            case 0: return w.now.day;
            case 1: return w.now.latest == null ? NONE : w.now.latest;
            case 2: return w.now.writer == null ? NONE : w.now.writer;
            case 3: return bits(6, w.now.girls::contains);
            case 4: return Arrays.stream(w.now.wrote).sum();
            case 5: return Arrays.stream(w.now.letters).sum();
            case 6: return w.now.over;
            case 7: return w.now.owed.values().stream().mapToInt(i -> i).sum();
            default: return NONE;
        }
    }

    private int whyNotWrite(Now n, int m, int p) {
        if (n.girls.contains(m)) {
            return 1;
        }
        if (n.latest != null && n.writer == m) {
            return 2;
        }
        if (!w.knows.contains(List.of(m, p))) {
            return 3;
        }
        if (n.latest != null && !w.answers.contains(List.of(p, n.latest))) {
            return 4;
        }
        return n.ink[m] < w.longs.get(p) ? 5 : 0;
    }

    private void doWrite(Now n, int m, int p) {
        n.ink[m] -= w.longs.get(p);
        n.wrote[m]++;
        n.letters[m] += w.longs.get(p);
        if (n.latest != null) {
            n.owed.put(List.of(n.writer, m), Math.min(9999, n.owed(n.writer, m) + w.claims.get(p)));
        }
        n.latest = p;
        n.writer = m;
    }

    private void keep() {
        before.push(w.now.copy());
        while (before.size() > 8) {
            before.removeLast();
        }
    }

    int write(int m, int p) {
        if (!hasM(m) || !hasP(p)) {
            return NONE;
        }
        int why = whyNotWrite(w.now, m, p);
        if (why == 0) {
            keep();
            doWrite(w.now, m, p);
        }
        return why;
    }

    int sit(int m) {
        if (!hasM(m)) {
            return NONE;
        }
        if (w.now.girls.contains(m)) {
            return 1;
        }
        keep();
        w.now.girls.add(m);
        return 0;
    }

    int leave(int m) {
        if (!hasM(m)) {
            return NONE;
        }
        if (!w.now.girls.contains(m)) {
            return 1;
        }
        keep();
        w.now.girls.remove(m);
        return 0;
    }

    int ribbon(int m, int n) {
        if (!hasM(m) || n < 1 || n > 999) {
            return NONE;
        }
        if (w.now.ink[m] >= n) {
            return 1;
        }
        keep();
        w.now.ink[m] = n;
        return 0;
    }

    private static boolean settle(Now n) {
        boolean some = false;
        for (int m = 0; m < 6; m++) {
            for (int k = m + 1; k < 6; k++) {
                int lesser = Math.min(n.owed(m, k), n.owed(k, m));
                if (lesser > 0) {
                    n.owed.put(List.of(m, k), n.owed(m, k) - lesser);
                    n.owed.put(List.of(k, m), n.owed(k, m) - lesser);
                    some = true;
                }
            }
        }
        return some;
    }

    int clear() {
        if (!settle(w.now.copy())) {
            return 1;
        }
        keep();
        settle(w.now);
        return 0;
    }

    /** One DAY: whether one wrote. */
    private boolean oneDay(Now n) {
        n.day++;
        List<Integer> round = new ArrayList<>();
        for (int m = 0; m < w.machines.size(); m++) {
            round.add(m);
        }
        if (n.latest != null) {
            while (round.get(round.size() - 1) != n.writer.intValue()) {
                round.add(round.remove(0));
            }
        }
        for (int m : round) {
            for (int p = 0; p < w.phrases.size(); p++) {
                if (whyNotWrite(n, m, p) == 0) {
                    doWrite(n, m, p);
                    return true;
                }
            }
        }
        if (n.latest != null) {
            n.latest = null;
            n.writer = null;
            n.over++;
        }
        return false;
    }

    int days(int n) {
        if (n < 1 || n > 60) {
            return NONE;
        }
        Now old = w.now.copy();
        int gone = 0;
        while (gone < n && w.now.day < 400) {
            oneDay(w.now);
            gone++;
        }
        keepIf(gone > 0, old);
        return gone;
    }

    private void keepIf(boolean done, Now old) {
        if (done) {
            before.push(old);
            while (before.size() > 8) {
                before.removeLast();
            }
        }
    }

    int undo() {
        if (before.isEmpty()) {
            return NONE;
        }
        w.now = before.pop();
        return before.size();
    }

    /** Goes on from the rows of one size to those of the next, in order; of those with a like end keeps the first. */
    int comes(int p) {
        if (!hasP(p)) {
            return NONE;
        }
        Map<Integer, List<Integer>> rows = new LinkedHashMap<>();
        Set<Integer> seen = new HashSet<>();
        for (int s = 0; s < 48; s++) {
            if (mayFollow(w.now.writer, w.now.latest, s)) {
                rows.put(s, List.of(s));
            }
        }
        while (!rows.isEmpty()) {
            for (Map.Entry<Integer, List<Integer>> row : rows.entrySet()) {
                if (row.getKey() % 8 == p) {
                    comesTold = row.getValue();
                    return comesTold.size();
                }
            }
            seen.addAll(rows.keySet());
            Map<Integer, List<Integer>> longer = new LinkedHashMap<>();
            for (Map.Entry<Integer, List<Integer>> row : rows.entrySet()) {
                for (int s = 0; s < 48; s++) {
                    if (!seen.contains(s) && !longer.containsKey(s)
                            && mayFollow(row.getKey() / 8, row.getKey() % 8, s)) {
                        List<Integer> next = new ArrayList<>(row.getValue());
                        next.add(s);
                        longer.put(s, next);
                    }
                }
            }
            rows = longer;
        }
        return NONE;
    }

    private boolean mayFollow(Integer writer, Integer latest, int s) {
        int m = s / 8;
        int p = s % 8;
        if (!w.knows.contains(List.of(m, p)) || w.now.girls.contains(m)) {
            return false;
        }
        return latest == null || writer != m && w.answers.contains(List.of(p, latest));
    }

    int comesAt(int k) {
        return comesTold == null || k < 0 || k >= comesTold.size() ? NONE : comesTold.get(k);
    }

    int silent() {
        Now n = w.now.copy();
        for (int i = 1; i <= 99; i++) {
            if (!oneDay(n)) {
                return i;
            }
        }
        return NONE;
    }

    private boolean tellsPhrases(String t) {
        return !t.isEmpty() && t.length() <= 9 && t.chars().allMatch(this::hasP);
    }

    int ways() {
        String t = take();
        if (!tellsPhrases(t)) {
            return NONE;
        }
        List<int[]> rows = new ArrayList<>();
        allRows(t, new int[t.length()], 0, rows);
        if (!rows.isEmpty()) {
            waysTold = new ArrayList<>();
            for (int m : rows.get(0)) {
                waysTold.add(m);
            }
            int least = Integer.MAX_VALUE;
            for (int i = 0; i < t.length(); i++) {
                int[] left = new int[6];
                for (int[] row : rows) {
                    left[row[i]]++;
                }
                int most = Arrays.stream(left).max().getAsInt();
                if (most < least) {
                    least = most;
                    askTold = i;
                }
            }
        }
        return rows.size();
    }

    private void allRows(String t, int[] row, int i, List<int[]> into) {
        if (i == t.length()) {
            into.add(row.clone());
            return;
        }
        for (int m = 0; m < w.machines.size(); m++) {
            if (w.knows.contains(List.of(m, (int) t.charAt(i))) && (i == 0 || row[i - 1] != m)) {
                row[i] = m;
                allRows(t, row, i + 1, into);
            }
        }
    }

    int waysAt(int k) {
        return waysTold == null || k < 0 || k >= waysTold.size() ? NONE : waysTold.get(k);
    }

    int ask() {
        return askTold;
    }

    int lacks() {
        String t = take();
        if (!tellsPhrases(t)) {
            return NONE;
        }
        Set<List<Integer>> needed = new HashSet<>();
        for (int i = 1; i < t.length(); i++) {
            needed.add(List.of((int) t.charAt(i), (int) t.charAt(i - 1)));
        }
        needed.removeAll(w.answers);
        return needed.size();
    }

    int faint() {
        String t = take();
        if (!t.matches("[a-z?]{1,7}")) {
            return NONE;
        }
        Pattern fits = Pattern.compile(t.replace('?', '.'));
        List<String> names = new ArrayList<>();
        for (String name : w.phrases) {
            if (fits.matcher(name).matches()) {
                names.add(name);
            }
        }
        int least = 99;
        for (int i = 0; i < t.length() && !names.isEmpty(); i++) {
            Map<Character, Integer> left = new HashMap<>();
            for (String name : names) {
                left.merge(name.charAt(i), 1, Integer::sum);
            }
            int most = left.values().stream().mapToInt(n -> n).max().getAsInt();
            if (most < least) {
                least = most;
                lookTold = i;
            }
        }
        return bits(w.phrases.size(), p -> fits.matcher(w.phrases.get(p)).matches());
    }

    int look() {
        return lookTold;
    }

    int ship() {
        String t = take();
        if (t.isEmpty() || t.length() > 6 || !t.chars().allMatch(b -> b >= 1 && b <= 60)) {
            return NONE;
        }
        long all = 1;
        for (int i = 0; i < t.length(); i++) {
            long step = all;
            while (all % t.charAt(i) != 0) {
                all += step;
            }
        }
        return all > 99999999 ? NONE : (int) all;
    }

    int part(int m, int what) {
        int all = now(5);
        if (all == 0 || !hasM(m) || what != 0 && what != 1) {
            throw new NoSuchElementException();
        }
        int own = w.now.letters[m];
        int by = all;
        while (own % by != 0 || all % by != 0) {
            by--;
        }
        return (what == 0 ? own : all) / by;
    }

    int line(int m) {
        if (!hasM(m)) {
            return NONE;
        }
        lineTold = w.machines.get(m) + " wrote " + w.now.wrote[m] + " ink " + w.now.ink[m]
                + (w.now.girls.contains(m) ? " held" : "");
        return lineTold.length();
    }

    int byteAt(int i) {
        return i < 0 || i >= lineTold.length() ? NONE : lineTold.charAt(i);
    }

    private int draw(int[] seed, int n) {
        seed[0] = seed[0] * 1103515245 + 12345;
        return (seed[0] >>> 8) % n;
    }

    private int drawDays(Now n, int days, int x) {
        int[] seed = {x};
        int gone = 0;
        for (; gone < days && n.day < 400; gone++) {
            if (!w.machines.isEmpty()) {
                drawAct(n, seed);
            }
            oneDay(n);
        }
        return gone;
    }

    private void drawAct(Now n, int[] seed) {
        switch (draw(seed, 8)) {
            case 0: {
                int m = draw(seed, w.machines.size());
                if (!n.girls.remove(m)) {
                    n.girls.add(m);
                }
                break;
            }
            case 1: {
                int m = draw(seed, w.machines.size());
                n.ink[m] = Math.max(n.ink[m], draw(seed, 60) + 1);
                break;
            }
            case 2:
            case 3:
            case 4:
                if (!w.phrases.isEmpty()) {
                    int m = draw(seed, w.machines.size());
                    int p = draw(seed, w.phrases.size());
                    if (whyNotWrite(n, m, p) == 0) {
                        doWrite(n, m, p);
                    }
                }
                break;
            default:
        }
    }

    int drawn(int n, int seed) {
        if (n < 1 || n > 60) {
            return NONE;
        }
        Now old = w.now.copy();
        int gone = drawDays(w.now, n, seed);
        keepIf(gone > 0, old);
        return gone;
    }

    int odds(int m, int n, int seed) {
        if (!hasM(m) || n < 1 || n > 30) {
            return NONE;
        }
        int more = 0;
        for (int x = seed; x != seed + n; x++) {
            Now trial = w.now.copy();
            drawDays(trial, 10, x);
            more += trial.wrote[m] > w.now.wrote[m] ? 1 : 0;
        }
        return more;
    }

    private interface Act {
        /** 0 and it is done, or why it is WRONG. */
        int on(Now n);
    }

    int book(int lives) {
        if (lives != 0 && lives != 1) {
            return -1000;
        }
        Text t = new Text(take(), 400);
        List<Act> acts = new ArrayList<>();
        try {
            while (!t.isOver()) {
                acts.add(bookLine(t, acts.size()));
                t.sign(";");
            }
        } catch (Fault f) {
            fault = f.kind;
            return -2 - f.place;
        }
        fault = 0;
        Now trial = w.now.copy();
        int ahead = 0;
        int why = 0;
        for (Act act : acts) {
            why = act.on(trial);
            if (why != 0) {
                break;
            }
            ahead++;
        }
        bookTold = new int[] {why, ahead, trial.day, Arrays.stream(trial.wrote).sum()};
        if (lives == 1) {
            keepIf(ahead > 0, w.now);
            w.now = trial;
        }
        return why == 0 ? NONE : ahead;
    }

    private Act bookLine(Text t, int told) {
        Token first = t.tokens.get(t.at);
        int m = -1;
        if (t.sees("clear") || t.sees("day")) {
            t.next();
        } else {
            m = t.nameOf(w.machines);
        }
        if (told == 40) {
            throw new Fault(4, first.place);
        }
        if (first.text.equals("clear")) {
            return n -> settle(n) ? 0 : 41;
        }
        if (first.text.equals("day")) {
            int many = t.number(1, 60);
            return n -> liveDays(n, many);
        }
        return machineAct(t, m);
    }

    private int liveDays(Now n, int many) {
        if (n.day + many > 400) {
            return 51;
        }
        for (int i = 0; i < many; i++) {
            oneDay(n);
        }
        return 0;
    }

    private Act machineAct(Text t, int m) {
        Token act = t.next();
        switch (act.text) {
            case "sits": return n -> n.girls.add(m) ? 0 : 11;
            case "leaves": return n -> n.girls.remove(m) ? 0 : 21;
            case "writes": {
                int p = t.nameOf(w.phrases);
                return n -> {
                    int why = whyNotWrite(n, m, p);
                    if (why == 0) {
                        doWrite(n, m, p);
                    }
                    return why;
                };
            }
            case "ribbon": {
                int ink = t.number(1, 999);
                return n -> {
                    if (n.ink[m] >= ink) {
                        return 31;
                    }
                    n.ink[m] = ink;
                    return 0;
                };
            }
            default: throw new Fault(1, act.place);
        }
    }

    int told(int what) {
        return bookTold == null || what < 0 || what > 3 ? NONE : bookTold[what];
    }

    int sentence() {
        Text t = new Text(take(), 200);
        int[] ones = new int[1];
        Predicate<Integer> told;
        try {
            told = cond(t, ones, 0);
            if (!t.isOver()) {
                throw new Fault(1, t.next().place);
            }
        } catch (Fault f) {
            fault = f.kind;
            return -1 - f.place;
        }
        fault = 0;
        w.sentence = told;
        return ones[0];
    }

    private Predicate<Integer> cond(Text t, int[] ones, int within) {
        Predicate<Integer> is = all(t, ones, within);
        while (t.sees("or")) {
            t.next();
            is = is.or(all(t, ones, within));
        }
        return is;
    }

    private Predicate<Integer> all(Text t, int[] ones, int within) {
        Predicate<Integer> is = one(t, ones, within);
        while (t.sees("and")) {
            t.next();
            is = is.and(one(t, ones, within));
        }
        return is;
    }

    private Predicate<Integer> one(Text t, int[] ones, int within) {
        Token first = t.next();
        if (!Set.of("not", "(", "held", "latest", "mute", "able", "owes", "ink", "wrote", "number")
                .contains(first.text)) {
            throw new Fault(1, first.place);
        }
        ones[0]++;
        if (ones[0] == 21 || within == 8) {
            throw new Fault(4, first.place);
        }
        switch (first.text) {
            case "not":
                return one(t, ones, within + 1).negate();
            case "(": {
                Predicate<Integer> is = cond(t, ones, within + 1);
                t.sign(")");
                return is;
            }
            case "held": return m -> machine(m, 2) == 1;
            case "latest": return m -> now(2) == m;
            case "mute": return m -> machine(m, 5) == 0;
            case "able": {
                int p = t.nameOf(w.phrases);
                return m -> (machine(m, 5) >> p & 1) == 1;
            }
            case "owes": {
                int k = t.nameOf(w.machines);
                return m -> owes(m, k) > 0;
            }
            case "ink": return compared(t, 0);
            case "wrote": return compared(t, 3);
            default: return compared(t, 99);
        }
    }

    private Predicate<Integer> compared(Text t, int what) {
        String sign = t.sign("<=>").text;
        int n = t.number(0, 999);
        return m -> {
            int left = what == 99 ? m : machine(m, what);
            return sign.equals("<") ? left < n : sign.equals("=") ? left == n : left > n;
        };
    }

    int said(int k) {
        if (w.sentence == null || k < -1) {
            return NONE;
        }
        List<Integer> of = new ArrayList<>();
        for (int m = 0; m < w.machines.size(); m++) {
            if (w.sentence.test(m)) {
                of.add(m);
            }
        }
        return k == -1 ? of.size() : k < of.size() ? of.get(k) : NONE;
    }

    private static World copy(World from) {
        // what an OFFICE's text told is never changed again, so it may be held by two
        World to = new World();
        to.machines = from.machines;
        to.phrases = from.phrases;
        to.longs = from.longs;
        to.claims = from.claims;
        to.knows = from.knows;
        to.answers = from.answers;
        to.sentence = from.sentence;
        to.lines = from.lines;
        to.now = from.now.copy();
        return to;
    }

    boolean image(int k) {
        if (k != 0 && k != 1) {
            return false;
        }
        images.put(k, copy(w));
        return true;
    }

    boolean restore(int k) {
        if (!images.containsKey(k)) {
            return false;
        }
        w = copy(images.get(k));
        before.clear();
        return true;
    }

    int count(int what) {
        switch (what) {
            case 0: return w.machines.size();
            case 1: return w.phrases.size();
            case 2: return w.answers.size();
            case 3: return tape.length();
            default: return NONE;
        }
    }
}
