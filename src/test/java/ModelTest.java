import java.nio.charset.StandardCharsets;
import java.util.ArrayList;
import java.util.Arrays;
import java.util.List;
import java.util.NoSuchElementException;
import java.util.Random;
import java.util.function.IntSupplier;

/**
 * Runs of up to 512 random calls on a new object, each answer compared with that of the model: texts with and without
 * faults, good and wild arguments. The seeds are fixed, so each run is the same each time. An argument tells how many
 * runs, another one the first seed.
 */
public final class ModelTest {
    private static final int CALLS = 512;
    private static final int THROWN = Integer.MIN_VALUE + 77;
    private static final String[] NAMES = {"a", "b", "c", "ab", "ac", "bc", "abc", "abd", "rem", "roy", "love", "lore",
        "bill", "ship", "shop", "zzzzzzz", "quiteso", "quietso", "m", "p"};
    private static final String[] WORDS = {"machine", "phrase", "knows", "answers", "writes", "sits", "leaves", "ribbon",
        "clear", "day", "or", "and", "not", "held", "latest", "mute", "able", "owes", "ink", "wrote", "number"};
    private static final int[] WILD = {-2147483648, -1000, -2, -1, 0, 1, 2, 5, 6, 7, 8, 9, 30, 31, 60, 61, 400, 940, 999,
        1000, 65536, 2147483647};

    private final Random random;
    private final long seed;
    private final KeyLetters real = new KeyLetters();
    private final Model model = new Model();
    private final List<String> done = new ArrayList<>();
    private List<String> machines = new ArrayList<>();
    private List<String> phrases = new ArrayList<>();
    private boolean wrong;

    private ModelTest(long seed) {
        this.seed = seed;
        this.random = new Random(seed);
    }

    public static void main(String[] args) {
        int runs = args.length > 0 ? Integer.parseInt(args[0]) : 600;
        long first = args.length > 1 ? Long.parseLong(args[1]) : 1;
        int wrongRuns = 0;
        for (long s = first; s < first + runs && wrongRuns < 5; s++) {
            wrongRuns += new ModelTest(s).run() ? 0 : 1;
        }
        System.out.println(wrongRuns == 0 ? "ModelTest: all answers are as due" : "ModelTest: wrong runs: " + wrongRuns);
        if (wrongRuns != 0) {
            System.exit(1);
        }
    }

    private boolean run() {
        tellOffice();
        while (!wrong && done.size() < CALLS) {
            step();
        }
        return !wrong;
    }

    private boolean chance(int percent) {
        return random.nextInt(100) < percent;
    }

    private int upTo(int n) {
        return random.nextInt(n + 1);
    }

    /** A number of which there are n, or at times any other one. */
    private int some(int n) {
        return chance(8) || n < 1 ? WILD[random.nextInt(WILD.length)] : random.nextInt(n);
    }

    private void same(String call, IntSupplier ofReal, IntSupplier ofModel) {
        if (wrong || done.size() >= CALLS) {
            return;
        }
        done.add(call);
        int got = answer(ofReal);
        int want = answer(ofModel);
        if (got != want) {
            wrong = true;
            System.out.println("run of seed " + seed + ", call " + done.size() + ": " + call + " answered " + got
                    + ", due is " + want + "; ahead of it:");
            done.stream().filter(c -> c.indexOf('\'') >= 0 || !c.startsWith("feed")).forEach(System.out::println);
        }
    }

    private static int answer(IntSupplier call) {
        try {
            return call.getAsInt();
        } catch (NoSuchElementException e) {
            return THROWN;
        }
    }

    private void feed(String text) {
        byte[] bytes = Arrays.copyOf(text.getBytes(StandardCharsets.ISO_8859_1), (text.length() + 19) / 20 * 20);
        same("end(0) '" + text + "'", () -> real.end(0) ? 1 : 0, () -> model.end(0) ? 1 : 0);
        for (int i = 0; i < bytes.length; i += 20) {
            int[] n = new int[5];
            for (int k = 0; k < 20; k++) {
                n[k / 4] = n[k / 4] << 8 | bytes[i + k] & 255;
            }
            same("feed", () -> real.feed(n[0], n[1], n[2], n[3], n[4]), () -> model.feed(n));
        }
        int length = text.length();
        same("end(" + length + ")", () -> real.end(length) ? 1 : 0, () -> model.end(length) ? 1 : 0);
    }

    private void tellOffice() {
        String text = spoiled(officeText(), 900, 20);
        if (text.length() > 940) {
            text = text.substring(0, 940);
        }
        feed(text);
        same("office()", real::office, model::office);
        same("fault()", real::fault, model::fault);
    }

    private String officeText() {
        List<String> names = new ArrayList<>(Arrays.asList(NAMES));
        java.util.Collections.shuffle(names, random);
        int m = chance(70) ? 2 + random.nextInt(5) : random.nextInt(8);
        int p = chance(70) ? 2 + random.nextInt(7) : random.nextInt(10);
        List<String> lines = new ArrayList<>();
        machines = new ArrayList<>(names.subList(0, m));
        phrases = new ArrayList<>(names.subList(m, m + p));
        int inkScale = chance(50) ? 60 : 999;
        for (String name : machines) {
            lines.add("machine " + name + " " + upTo(inkScale));
        }
        for (String name : phrases) {
            lines.add("phrase " + name + " " + (1 + random.nextInt(chance(70) ? 6 : 40)) + " "
                    + upTo(chance(50) ? 9 : 99));
        }
        List<String> pairs = new ArrayList<>();
        int density = 10 + random.nextInt(70);
        for (String a : machines) {
            for (String b : phrases) {
                addIf(density, pairs, "knows " + a + " " + b);
            }
        }
        density = 5 + random.nextInt(60);
        for (String a : phrases) {
            for (String b : phrases) {
                addIf(density, pairs, "answers " + a + " " + b);
            }
        }
        java.util.Collections.shuffle(pairs, random);
        lines.addAll(pairs);
        StringBuilder text = new StringBuilder();
        int most = chance(90) ? 890 : 940;
        for (String line : lines) {
            if (text.length() + line.length() + 2 <= most) {
                text.append(line).append(chance(90) ? ";" : " ;\n");
            }
        }
        return text.toString();
    }

    private void addIf(int percent, List<String> to, String line) {
        if (chance(percent)) {
            to.add(line);
        }
    }

    /** The text, at times with a change that may bring a FAULT, or with as many bytes as may be and some more. */
    private String spoiled(String text, int most, int percent) {
        if (!chance(percent)) {
            return text;
        }
        StringBuilder s = new StringBuilder(text);
        int at = upTo(s.length());
        switch (random.nextInt(9)) {
            case 0: s.insert(at, "abz019;<=>(). \n\tA?".charAt(random.nextInt(18))); break;
            case 1:
                if (at < s.length()) {
                    s.deleteCharAt(at);
                }
                break;
            case 2: s.insert(at, " " + WORDS[random.nextInt(WORDS.length)] + " "); break;
            case 3: s.insert(at, " " + NAMES[random.nextInt(NAMES.length)] + " "); break;
            case 4: s.insert(at, " " + upTo(1200) + " "); break;
            case 5: s.append(Checks.spaces(Math.max(0, most - s.length() - 3 + random.nextInt(8)))); break;
            case 6: s.insert(0, Checks.spaces(Math.max(0, most - s.length() - 3 + random.nextInt(40)))); break;
            case 7: s.setLength(at); break;
            default: s.append((char) random.nextInt(256));
        }
        if (s.length() > 940) {
            s.setLength(940);
        }
        return s.toString();
    }

    private String machineName() {
        return machines.isEmpty() || chance(3) ? NAMES[random.nextInt(NAMES.length)]
                : machines.get(random.nextInt(machines.size()));
    }

    private String phraseName() {
        return phrases.isEmpty() || chance(3) ? NAMES[random.nextInt(NAMES.length)]
                : phrases.get(random.nextInt(phrases.size()));
    }

    private String bookText() {
        StringBuilder text = new StringBuilder();
        int lines = chance(80) ? upTo(8) : 30 + random.nextInt(20);
        for (int i = 0; i < lines; i++) {
            if (lines > 20) {
                text.append(chance(80) ? "day 1;" : "clear;");
                continue;
            }
            switch (random.nextInt(7)) {
                case 0: text.append("clear;"); break;
                case 1: text.append("day ").append(chance(95) ? 1 + random.nextInt(5) : upTo(70)).append(';'); break;
                case 2: text.append(machineName()).append(" sits;"); break;
                case 3: text.append(machineName()).append(" leaves;"); break;
                case 4: text.append(machineName()).append(" ribbon ").append(upTo(chance(90) ? 70 : 999)).append(';');
                    break;
                default: text.append(ableLine());
            }
        }
        return text.toString();
    }

    private String ableLine() {
        for (int tries = 0; tries < 6; tries++) {
            int m = random.nextInt(6);
            int able = answer(() -> model.machine(m, 5));
            for (int p = 0; p < 8 && able > 0; p++) {
                if ((able >> p & 1) == 1 && m < machines.size() && p < phrases.size() && chance(50)) {
                    return machines.get(m) + " writes " + phrases.get(p) + ";";
                }
            }
        }
        return machineName() + " writes " + phraseName() + ";";
    }

    private String sentenceText(int depth) {
        StringBuilder text = new StringBuilder();
        int parts = chance(5) ? 22 : 1 + random.nextInt(depth > 6 ? 1 : 3);
        for (int i = 0; i < parts; i++) {
            text.append(i == 0 ? "" : chance(50) ? " and " : " or ").append(oneText(depth));
        }
        return text.toString();
    }

    private String oneText(int depth) {
        switch (random.nextInt(depth > 9 ? 8 : 12)) {
            case 0: return "held";
            case 1: return "latest";
            case 2: return "mute";
            case 3:
            case 4: return "able " + phraseName();
            case 5: return "owes " + machineName();
            case 6: return "ink" + "<=>".charAt(random.nextInt(3)) + upTo(chance(80) ? 60 : 999);
            case 7: return (chance(50) ? "wrote" : "number") + "<=>".charAt(random.nextInt(3)) + upTo(6);
            case 8:
            case 9: return "not " + oneText(depth + 1);
            default: return chance(30) ? "(" + oneText(depth + 1) + ")" : "(" + sentenceText(depth + 1) + ")";
        }
    }

    private String deepSentence() {
        int deep = 6 + random.nextInt(4);
        StringBuilder text = new StringBuilder();
        StringBuilder behind = new StringBuilder();
        for (int i = 0; i < deep; i++) {
            boolean bracket = chance(50);
            text.append(bracket ? "(" : "not ");
            behind.append(bracket ? ")" : "");
        }
        return text.append("mute").append(behind).toString();
    }

    private void step() {
        switch (random.nextInt(18)) {
            case 0: actWisely(); break;
            case 1: actWisely(); break;
            case 2: act(); break;
            case 3: days(); break;
            case 4: same("undo()", real::undo, model::undo); break;
            case 5: comes(); break;
            case 6: rowOfPhrases(); break;
            case 7: faint(); break;
            case 8: ship(); break;
            case 9: lines(); break;
            case 10: drawn(); break;
            case 11: book(); break;
            case 12: sentence(); break;
            case 13: images(); break;
            case 14: tape(); break;
            default: queries();
        }
        if (chance(2)) {
            tellOffice();
        }
    }

    private void actWisely() {
        int m = random.nextInt(6);
        int able = answer(() -> model.machine(m, 5));
        for (int p = 0; p < 8; p++) {
            int phrase = p;
            if (able > 0 && (able >> p & 1) == 1) {
                same("write(" + m + ", " + p + ")", () -> real.write(m, phrase), () -> model.write(m, phrase));
            }
        }
    }

    private void act() {
        int m = some(machines.size());
        int n = some(phrases.size());
        int ink = chance(80) ? 1 + random.nextInt(80) : some(0);
        switch (random.nextInt(6)) {
            case 0:
            case 1: same("write(" + m + ", " + n + ")", () -> real.write(m, n), () -> model.write(m, n)); break;
            case 2: same("sit(" + m + ")", () -> real.sit(m), () -> model.sit(m)); break;
            case 3: same("leave(" + m + ")", () -> real.leave(m), () -> model.leave(m)); break;
            case 4: same("ribbon(" + m + ", " + ink + ")", () -> real.ribbon(m, ink), () -> model.ribbon(m, ink)); break;
            default: same("clear()", real::clear, model::clear);
        }
    }

    private void days() {
        int n = chance(70) ? 1 + random.nextInt(5) : chance(50) ? 1 + random.nextInt(60) : some(0);
        same("days(" + n + ")", () -> real.days(n), () -> model.days(n));
        same("silent()", real::silent, model::silent);
    }

    private void comes() {
        int p = some(phrases.size());
        same("comes(" + p + ")", () -> real.comes(p), () -> model.comes(p));
        for (int i = -1; i < 6; i++) {
            int k = i;
            same("comesAt(" + k + ")", () -> real.comesAt(k), () -> model.comesAt(k));
        }
    }

    private void rowOfPhrases() {
        StringBuilder text = new StringBuilder();
        int places = chance(90) ? 1 + random.nextInt(5) : upTo(11);
        for (int i = 0; i < places; i++) {
            text.append((char) (chance(1) ? random.nextInt(256) : random.nextInt(Math.max(1, phrases.size()))));
        }
        feed(text.toString());
        if (chance(30)) {
            same("lacks()", real::lacks, model::lacks);
            return;
        }
        same("ways()", real::ways, model::ways);
        same("ask()", real::ask, model::ask);
        for (int i = -1; i <= 9; i++) {
            int k = i;
            same("waysAt(" + k + ")", () -> real.waysAt(k), () -> model.waysAt(k));
        }
    }

    private void faint() {
        StringBuilder text = new StringBuilder(chance(90) ? phraseName() : NAMES[random.nextInt(NAMES.length)]);
        for (int i = 0; i < text.length(); i++) {
            if (chance(60)) {
                text.setCharAt(i, chance(97) ? '?' : (char) random.nextInt(256));
            }
        }
        if (chance(5)) {
            text.append("?????");
        }
        feed(text.toString());
        same("faint()", real::faint, model::faint);
        same("look()", real::look, model::look);
    }

    private void ship() {
        StringBuilder text = new StringBuilder();
        int losses = chance(90) ? 1 + random.nextInt(6) : upTo(8);
        for (int i = 0; i < losses; i++) {
            text.append((char) (chance(97) ? 1 + random.nextInt(60) : random.nextInt(256)));
        }
        feed(text.toString());
        same("ship()", real::ship, model::ship);
    }

    private void lines() {
        int m = some(machines.size());
        int what = some(2);
        same("line(" + m + ")", () -> real.line(m), () -> model.line(m));
        for (int i = -1; i < 4; i++) {
            int k = i * 9;
            same("byteAt(" + k + ")", () -> real.byteAt(k), () -> model.byteAt(k));
        }
        same("part(" + m + ", " + what + ")", () -> real.part(m, what), () -> model.part(m, what));
    }

    private void drawn() {
        int n = chance(80) ? 1 + random.nextInt(10) : some(0);
        int x = chance(50) ? random.nextInt() : some(0);
        int m = some(machines.size());
        int seeds = chance(80) ? 1 + random.nextInt(30) : some(0);
        if (chance(40)) {
            same("odds(" + m + ", " + seeds + ", " + x + ")", () -> real.odds(m, seeds, x),
                    () -> model.odds(m, seeds, x));
        } else {
            same("drawn(" + n + ", " + x + ")", () -> real.drawn(n, x), () -> model.drawn(n, x));
        }
    }

    private void book() {
        String text = spoiled(bookText(), 400, 15);
        feed(text.length() > 420 ? text.substring(0, 420) : text);
        int lives = chance(90) ? random.nextInt(2) : some(0);
        same("book(" + lives + ")", () -> real.book(lives), () -> model.book(lives));
        same("fault()", real::fault, model::fault);
        for (int i = -1; i <= 4; i++) {
            int what = i;
            same("told(" + what + ")", () -> real.told(what), () -> model.told(what));
        }
    }

    private void sentence() {
        String text = spoiled(chance(20) ? deepSentence() : sentenceText(0), 200, 15);
        feed(text.length() > 220 ? text.substring(0, 220) : text);
        same("sentence()", real::sentence, model::sentence);
        same("fault()", real::fault, model::fault);
        saidAll();
    }

    private void saidAll() {
        for (int i = -2; i <= 6; i++) {
            int k = i;
            same("said(" + k + ")", () -> real.said(k), () -> model.said(k));
        }
    }

    private void images() {
        int k = some(2);
        if (chance(50)) {
            same("image(" + k + ")", () -> real.image(k) ? 1 : 0, () -> model.image(k) ? 1 : 0);
        } else {
            same("restore(" + k + ")", () -> real.restore(k) ? 1 : 0, () -> model.restore(k) ? 1 : 0);
        }
    }

    private void tape() {
        int n = some(30);
        int[] numbers = {random.nextInt(), random.nextInt(), random.nextInt(), random.nextInt(), random.nextInt()};
        same("feed", () -> real.feed(numbers[0], numbers[1], numbers[2], numbers[3], numbers[4]),
                () -> model.feed(numbers));
        same("end(" + n + ")", () -> real.end(n) ? 1 : 0, () -> model.end(n) ? 1 : 0);
    }

    private void queries() {
        for (int i = 0; i < 8; i++) {
            int m = some(machines.size());
            int k = some(Math.max(machines.size(), phrases.size()));
            int what = some(8);
            switch (random.nextInt(6)) {
                case 0: same("machine(" + m + ", " + what + ")", () -> real.machine(m, what),
                        () -> model.machine(m, what)); break;
                case 1: same("phrase(" + k + ", " + what + ")", () -> real.phrase(k, what),
                        () -> model.phrase(k, what)); break;
                case 2: same("owes(" + m + ", " + k + ")", () -> real.owes(m, k), () -> model.owes(m, k)); break;
                case 3: same("count(" + what + ")", () -> real.count(what), () -> model.count(what)); break;
                default: same("now(" + what + ")", () -> real.now(what), () -> model.now(what));
            }
        }
        if (chance(30)) {
            saidAll();
        }
    }
}
