import java.lang.reflect.InvocationTargetException;
import java.lang.reflect.Method;
import java.nio.file.Files;
import java.nio.file.Path;
import java.util.Arrays;
import java.util.Map;
import java.util.NoSuchElementException;
import java.util.TreeMap;

/**
 * For each sentence of the document that names a boundary case a test of its own. A test tells where the
 * sentence stands ("Terms 2", "Promise 7"), quotes it, and asks rows of calls; that the quotation stands
 * there is tested, too. Its name and its sentence are printed.
 *
 * A row is "call => answer"; rows are parted by a line's end or " | ", each test begins on a new object,
 * "new" takes another one. tell "TEXT" feeds a text and has it read; ^ in it is where the FAULT is due
 * (then fault() is asked, too; without ^ it must be NONE), {9} is the byte 9; what stands behind ~ is fed,
 * but not told. NSEE and IAE are exceptions.
 */
public final class BoundaryRuns {
    private static final String DOCUMENT = "../shared/DOC.md";
    private static final Map<String, Integer> tests = new TreeMap<>();
    private static String document;
    /** Which signs of the document a test quotes. */
    private static boolean[] quoted;
    private static int asked = 0;
    private static int wrong = 0;
    /** Calls on the object of now. */
    private static int calls = 0;

    public static void main(String[] args) throws Exception {
        document = Files.readString(Path.of(DOCUMENT));
        quoted = new boolean[document.length()];
        whatItIs();
        theFace();
        termsWhoIsThere();
        termsTape();
        termsSigns();
        termsFaults();
        termsWays();
        termsKeep();
        termsPhases();
        termsMost();
        termsPairings();
        termsCosts();
        termsChosenAndRounds();
        termsTrade();
        termsAsked();
        newObject();
        feed();
        text();
        fault();
        told();
        looks();
        ways();
        phases();
        most();
        of();
        fit();
        lackAndHall();
        manyAndCheap();
        narrowMoreFewest();
        chosenAndRounds();
        addAndDrop();
        is();
        pairAndPart();
        weightTradeKeepSettle();
        undo();
        printAndStatus();
        allHaveTests();
        allIsQuoted();
        System.out.println(tests.values().stream().mapToInt(n -> n).sum() + " sentences, " + asked + " answers asked, " + wrong + " wrong");
        if (wrong != 0) {
            System.exit(1);
        }
    }

    // ---- how a test runs

    private static void at(String where, String sentence, String rows) throws Exception {
        int wrongAhead = wrong;
        int askedAhead = asked;
        quote(where, sentence);
        PairKeeper x = new PairKeeper();
        calls = 0;
        int n = 0;
        for (String row : rows.split("\n| \\| ")) {
            n++;
            if (row.isBlank()) {
                continue;
            }
            if (row.strip().equals("new")) {
                x = new PairKeeper();
                calls = 0;
                continue;
            }
            int arrow = row.lastIndexOf("=>");
            String call = row.substring(0, arrow).strip();
            String due = row.substring(arrow + 2).strip();
            if (call.startsWith("tell ")) {
                tell(x, n, call, due);
            } else {
                compare(n, call, answer(x, call), due);
            }
        }
        tests.merge(where, 1, Integer::sum);
        System.out.println((wrong == wrongAhead ? "holds " : "BROKEN ") + where + ", \"" + sentence + "\": "
            + (asked - askedAhead) + " answers");
    }

    private static void compare(int row, String call, String got, String due) {
        asked++;
        if (!got.equals(due)) {
            wrong++;
            System.out.println("  row " + row + ": " + call + " answered " + got + ", due is " + due);
        }
    }

    /** Tests that the document has the sentence in that part, and marks it there. */
    private static void quote(String where, String sentence) {
        String begin = where.startsWith("Terms") ? "==== " + where.substring(6) + "." : "\n## " + where;
        int from = document.indexOf(begin + (where.startsWith("Promise") ? ":" : ""));
        int place = from < 0 ? -1 : section(from).indexOf(sentence);
        if (place < 0) {
            wrong++;
            System.out.println("  the document has no such sentence in " + where + ": " + sentence);
            return;
        }
        Arrays.fill(quoted, from + place, from + place + sentence.length(), true);
    }

    /** The part of the document that begins at a place. */
    private static String section(int from) {
        int heading = document.indexOf("\n## ", from + 1);
        int term = document.indexOf("\n==== ", from + 1);
        int to = heading < 0 ? document.length() : heading;
        return document.substring(from, term > 0 && term < to ? term : to);
    }

    /** What of Terms and Promises no test quotes: headings, faces and names ("TRADE:") alone may be left. */
    private static void allIsQuoted() {
        StringBuilder left = new StringBuilder();
        for (int k = document.indexOf("\n## Terms"); k < document.indexOf("\n## Not promised"); k++) {
            left.append(quoted[k] ? '\0' : document.charAt(k));
        }
        String plain = left.toString().replaceAll("(?m)^## .*|^```.*|^==== \\d\\.|^`[^`]*`:", "\0");
        for (String piece : plain.split("[\0\n]+")) {
            if (piece.replaceAll("[^A-Za-z]", "").length() > 12) {
                wrong++;
                System.out.println("  no test quotes: " + piece.strip());
            }
        }
    }

    private static void allHaveTests() {
        for (int promise = 1; promise <= 42; promise++) {
            if (!tests.containsKey("Promise " + promise)) {
                wrong++;
                System.out.println("promise " + promise + " has no test");
            }
        }
    }

    private static void tell(PairKeeper x, int row, String call, String due) throws Exception {
        String quoted = call.substring(call.indexOf('"') + 1, call.lastIndexOf('"'));
        StringBuilder text = new StringBuilder();
        int place = PairKeeper.NONE;
        int end = PairKeeper.NONE;
        for (int k = 0; k < quoted.length(); k++) {
            char sign = quoted.charAt(k);
            if (sign == '^') {
                place = text.length();
            } else if (sign == '~') {
                end = text.length();
            } else if (sign == '{') {
                int close = quoted.indexOf('}', k);
                text.append((char) Integer.parseInt(quoted.substring(k + 1, close)));
                k = close;
            } else {
                text.append(sign);
            }
        }
        feed(x, text);
        compare(row, call, answer(x, "text(" + (end < 0 ? text.length() : end) + ")"), due);
        compare(row, "fault() behind " + call, answer(x, "fault()"), "" + place);
    }

    private static void feed(PairKeeper x, CharSequence text) {
        for (int at = 0; at < text.length(); at += 20) {
            int[] five = new int[5];
            for (int k = 0; k < 20; k++) {
                int sign = at + k < text.length() ? text.charAt(at + k) : 0;
                five[k / 4] = five[k / 4] << 8 | sign;
            }
            count();
            x.feed(five[0], five[1], five[2], five[3], five[4]);
        }
    }

    private static String answer(PairKeeper x, String call) throws Exception {
        String name = call.substring(0, call.indexOf('('));
        String inside = call.substring(call.indexOf('(') + 1, call.lastIndexOf(')')).strip();
        String[] parts = inside.isEmpty() ? new String[0] : inside.split(",");
        Class<?>[] types = new Class<?>[parts.length];
        Object[] values = new Object[parts.length];
        for (int k = 0; k < parts.length; k++) {
            types[k] = int.class;
            values[k] = number(parts[k].strip());
        }
        Method method = PairKeeper.class.getMethod(name, types);
        count();
        try {
            return method.invoke(x, values).toString();
        } catch (InvocationTargetException e) {
            Class<?> thrown = e.getCause().getClass();
            return thrown == NoSuchElementException.class ? "NSEE"
                : thrown == IllegalArgumentException.class ? "IAE" : e.getCause().toString();
        }
    }

    private static void count() {
        calls++;
        if (calls > 512) {
            throw new IllegalStateException("more than 512 calls on one object");
        }
    }

    private static int number(String digits) {
        return digits.equals("MAX") ? Integer.MAX_VALUE : digits.equals("MIN") ? Integer.MIN_VALUE : Integer.parseInt(digits);
    }

    // ---- rows that are made

    /** Rows of calls of all WORKERS with all TASKS; # is the WORKER, @ the TASK. */
    private static String each(int workers, int tasks, String row) {
        StringBuilder b = new StringBuilder();
        for (int w = 0; w < workers; w++) {
            for (int t = 0; t < tasks; t++) {
                b.append(row.replace("#", "" + w).replace("@", "" + t)).append('\n');
            }
        }
        return b.toString();
    }

    /** Rows of calls of numbers; # is the number. */
    private static String from(int first, int last, String row) {
        StringBuilder b = new StringBuilder();
        for (int k = first; k <= last; k++) {
            b.append(row.replace("#", "" + k).replace("@", "" + (k - 1))).append('\n');
        }
        return b.toString();
    }

    /** Refused arguments: the last of a call, beyond both its bounds. */
    private static String beyond(String call, int least, int most) {
        StringBuilder b = new StringBuilder();
        for (String bad : new String[] {"" + (least - 1), "" + (most + 1), "MIN", "MAX"}) {
            b.append(call.replace("#", bad)).append(" => IAE\n");
        }
        return b.toString();
    }

    /** No such places: # in a call, beyond 0 and the last one. */
    private static String nowhere(String call, int last) {
        StringBuilder b = new StringBuilder();
        for (String bad : new String[] {"-1", "" + (last + 1), "MIN", "MAX"}) {
            b.append(call.replace("#", bad)).append(" => NSEE\n");
        }
        return b.toString();
    }

    /** All WORKERS fit all TASKS, at a COST of 0; KEEP 0, no PAIRS. */
    private static String full(int workers, int tasks) {
        return "tell \"workers " + workers + ";tasks " + tasks + ";keep 0;\" => 0\n" + each(workers, tasks, "add(#, @, 0) => -1");
    }

    /** A text cut at each length: it ends too early, but a word that is cut can't stand there. */
    private static String cuts(String text, int head, String good) {
        StringBuilder b = new StringBuilder("new\n");
        int word = 0;
        for (int n = 0; n < text.length(); n++) {
            boolean letter = n > 0 && Character.isLetter(text.charAt(n - 1));
            word = letter ? word : n;
            int place = letter && Character.isLetter(text.charAt(n)) ? word : n;
            boolean ended = n >= head && text.substring(0, n).strip().endsWith(";");
            String cut = text.substring(0, n);
            b.append(n % 60 == 59 ? "new\n" : "");
            b.append("tell \"").append(ended ? cut : cut.substring(0, place) + "^" + cut.substring(place));
            b.append(n % 2 == 0 ? "" : "~" + text.substring(n));
            b.append("\" => ").append(ended ? good : "-9").append('\n');
        }
        return b.toString();
    }

    // ---- What it is

    private static void whatItIs() throws Exception {
        at("What it is", "An object is used for at most 512 calls after it has been made",
            from(1, 500, "told(-#) => IAE") + from(2, 12, "weight(0, #) => @") + "status(1) => 500");
    }

    private static void theFace() throws Exception {
        at("The public face", "public static final int NONE = -1", "");
        compare(1, "NONE", "" + PairKeeper.class.getField("NONE").get(null), "-1");
    }

    // ---- Terms 1

    private static void termsWhoIsThere() throws Exception {
        at("Terms 1", "WORKERS 0 to N less 1 (1 to 12; 1 at first)", """
            told(0) => 1 | told(5) => 1 | partner(0, 0) => -1 | partner(0, 1) => NSEE
            tell "workers 12;tasks 1;" => 0 | told(0) => 12 | told(5) => 4095 | partner(0, 11) => -1 | partner(0, 12) => NSEE
            tell "workers 2;tasks 1;" => 0 | told(0) => 2 | told(5) => 3 | partner(0, 1) => -1 | partner(0, 2) => NSEE
            tell "workers 1;tasks 1;" => 0 | told(0) => 1 | told(5) => 1 | partner(0, 0) => -1 | partner(0, 1) => NSEE
            tell "workers ^0;tasks 1;" => -8
            tell "workers ^13;tasks 1;" => -8
            told(0) => 1
            """);
        at("Terms 1", "TASKS 0 to M less 1 (1 to 12; 1 at first)", """
            told(1) => 1 | told(6) => 1 | partner(1, 0) => -1 | partner(1, 1) => NSEE
            tell "workers 1;tasks 12;" => 0 | told(1) => 12 | told(6) => 4095 | partner(1, 11) => -1 | partner(1, 12) => NSEE
            tell "workers 1;tasks 2;" => 0 | told(1) => 2 | told(6) => 3 | partner(1, 1) => -1 | partner(1, 2) => NSEE
            tell "workers 1;tasks 1;" => 0 | told(1) => 1 | told(6) => 1 | partner(1, 0) => -1 | partner(1, 1) => NSEE
            tell "workers 1;tasks ^0;" => -8
            tell "workers 1;tasks ^13;" => -8
            told(1) => 1
            """);
        at("Terms 1", "each is THERE, or AWAY", """
            told(5) => 1 | told(6) => 1 | is(0, 0, 0) => -1 | is(1, 0, 0) => -1 | told(5) => 0 | told(6) => 0
            is(0, 0, 1) => -1 | is(1, 0, 1) => -1 | told(5) => 1 | told(6) => 1
            tell "workers 12;tasks 12;away worker 11;away task 0;" => 0 | told(5) => 2047 | told(6) => 4094
            tell "workers 2;tasks 2;away worker 0;away worker 1;away task 0;away task 1;" => 0 | told(5) => 0 | told(6) => 0
            """);
        at("Terms 1", "A WORKER has a WEIGHT (0 to 99; 1 at first)", """
            weight(0, 0) => 1 | weight(0, 99) => 0 | weight(0, 1) => 99
            tell "workers 3;tasks 1;weight 0 0;weight 2 99;" => 0 | weight(0, 7) => 0 | weight(1, 7) => 1 | weight(2, 7) => 99
            tell "workers 3;tasks 1;weight 0 ^100;" => -8
            tell "workers 3;tasks 1;" => 0 | weight(0, 7) => 1 | weight(2, 7) => 1
            """);
        at("Terms 1", "a WORKER and a TASK, with a COST (0 to 99); none at first", """
            told(2) => 0 | cost(0, 0) => -1 | fits(0, 0) => 0
            add(0, 0, 0) => -1 | cost(0, 0) => 0 | add(0, 0, 99) => 0 | cost(0, 0) => 99 | told(2) => 1
            add(0, 0, 100) => IAE | add(0, 0, -1) => IAE | cost(0, 0) => 99
            tell "workers 2;tasks 2;" => 0 | told(2) => 0 | cost(0, 0) => -1
            tell "workers 2;tasks 2;fit 0 0 0;fit 1 1 99;" => 2 | cost(0, 0) => 0 | cost(1, 1) => 99 | cost(0, 1) => -1
            tell "workers 2;tasks 2;fit 0 0 ^100;" => -8
            """);
        at("Terms 1", "FITS of which both are THERE, no WORKER, no TASK in two of them", """
            tell "workers 2;tasks 2;away worker 0;away task 1;fit 0 0;fit 1 1;fit 0 1;" => 0 | told(2) => 3 | told(3) => 0
            is(0, 0, 1) => -1 | told(3) => 1 | partner(0, 0) => 0 | is(1, 1, 1) => -1 | told(3) => 2
            tell "workers 2;tasks 2;fit 0 0;fit 0 1;" => 1 | partner(0, 0) => 0 | partner(1, 1) => -1
            tell "workers 2;tasks 2;fit 0 0;fit 1 0;" => 1 | partner(1, 0) => 0 | partner(0, 1) => -1
            """);
        at("Terms 1", "Who is THERE and in no PAIR is FREE", """
            told(7) => 1 | told(8) => 1 | add(0, 0, 0) => -1 | told(7) => 0 | told(8) => 0
            is(0, 0, 0) => 0 | told(7) => 0 | told(8) => 1 | is(1, 0, 0) => -1 | told(8) => 0
            tell "workers 3;tasks 3;keep 0;fit 0 0;pair 0 0;away worker 2;away task 1;" => 1 | told(7) => 2 | told(8) => 4
            """);
        at("Terms 1", "KEEP (0, 1; 1 at first)", """
            told(4) => 1 | keep(0) => 1 | told(4) => 0 | keep(1) => 0 | told(4) => 1 | keep(2) => IAE | keep(-1) => IAE | told(4) => 1
            tell "workers 1;tasks 1;keep 0;" => 0 | told(4) => 0
            tell "workers 1;tasks 1;" => 0 | told(4) => 1
            tell "workers 1;tasks 1;keep 1;" => 0 | told(4) => 1
            tell "workers 1;tasks 1;keep ^2;" => -8
            """);
    }

    private static void termsTape() throws Exception {
        at("Terms 1", "The TAPE has up to 300 bytes",
            "tell \"workers 2;tasks 2;" + "fit 0 0 7;".repeat(27) + "fit 1 1 9;  \" => 2\n"
            + "told(11) => 0 | told(2) => 2 | cost(1, 1) => 9\n"
            + "tell \"workers 2;tasks 2;" + " ".repeat(282) + "\" => 0\n told(11) => 0 | told(2) => 0\n"
            + "tell \"workers 2;tasks 2;" + " ".repeat(281) + "^x\" => -9\n told(11) => 0");
        at("Terms 1", "\"workers\" N \";\" \"tasks\" M \";\" { LINE \";\" }", """
            tell "workers 1;tasks 1;" => 0
            tell "^" => -9
            tell "^tasks 1;workers 1;" => -9
            tell "workers 1;^fit 0 0;tasks 1;" => -9
            tell "workers 1;tasks 1;^workers 1;" => -9
            tell "workers 1;tasks 1;^tasks 1;" => -9
            tell "workers 1;tasks 1;^;" => -9
            tell "workers 1;^;tasks 1;" => -9
            tell "workers 1;tasks 1;fit 0 0;^;" => -9
            tell "workers 1;tasks 1;fit 0 0 ^fit 0 0;" => -9
            tell "workers 1 ^tasks 1;" => -9
            """);
        at("Terms 1", "\"fit\" W T [ C ] (C 0 without; what is told twice: the last counts)", """
            tell "workers 2;tasks 2;fit 1 0;" => 1 | cost(1, 0) => 0
            tell "workers 2;tasks 2;fit 1 0 5;fit 1 0 9;" => 1 | cost(1, 0) => 9 | told(2) => 1
            tell "workers 2;tasks 2;fit 1 0 9;fit 1 0 5;" => 1 | cost(1, 0) => 5
            tell "workers 2;tasks 2;fit 1 0 9;fit 1 0;" => 1 | cost(1, 0) => 0 | told(2) => 1
            tell "workers 2;tasks 2;keep 0;fit 1 0 9;pair 1 0;fit 1 0 4;" => 1 | partner(0, 1) => 0 | told(9) => 4
            tell "workers 2;tasks 2;weight 1 9;weight 1 4;" => 0 | weight(1, 0) => 4
            tell "workers 2;tasks 2;away task 0;fit 1 0 3;away worker 1;" => 0 | cost(1, 0) => 3
            """);
        at("Terms 1", "\"pair\" W T (a FIT told ahead; both THERE and FREE as told so far)", """
            tell "workers 2;tasks 2;keep 0;fit 1 0;pair 1 0;" => 1 | partner(0, 1) => 0
            tell "workers 2;tasks 2;keep 0;pair ^1 0;fit 1 0;" => -6
            tell "workers 2;tasks 2;keep 0;fit 1 0;away worker 1;pair ^1 0;" => -6
            tell "workers 2;tasks 2;keep 0;fit 1 0;away task 0;pair ^1 0;" => -6
            tell "workers 2;tasks 2;keep 0;fit 1 0;pair 1 0;away worker ^1;" => -5
            tell "workers 2;tasks 2;keep 0;fit 1 0;pair 1 0;pair ^1 0;" => -6
            tell "workers 2;tasks 2;keep 0;fit 1 0;fit 0 1;pair 1 0;pair 0 1;" => 2
            """);
        at("Terms 1", "\"away\" \"worker\" W | \"away\" \"task\" T", """
            tell "workers 12;tasks 12;away worker 0;away worker 11;away task 11;away task 0;" => 0 | told(5) => 2046 | told(6) => 2046
            tell "workers 1;tasks 1;away worker 0;away task 0;fit 0 0 4;" => 0 | told(5) => 0 | told(6) => 0 | told(7) => 0 | told(8) => 0 | cost(0, 0) => 4
            tell "workers 12;tasks 1;away worker 11;" => 0 | told(5) => 2047
            tell "workers 12;tasks 1;away task ^11;" => -8
            tell "workers 1;tasks 12;away worker ^11;" => -8
            tell "workers 1;tasks 12;away task 11;" => 0 | told(6) => 2047
            """);
        at("Terms 1", "\"weight\" W V (0 to 99)", """
            tell "workers 2;tasks 1;weight 0 0;weight 1 99;" => 0 | weight(0, 1) => 0 | weight(1, 1) => 99
            tell "workers 2;tasks 1;weight 0 ^100;" => -8
            tell "workers 2;tasks 1;weight ^2 0;" => -8
            tell "workers 2;tasks 1;weight 0^;" => -9
            """);
        at("Terms 1", "\"keep\" K (0, 1; once)", """
            tell "workers 1;tasks 1;keep 0;" => 0 | told(4) => 0
            tell "workers 1;tasks 1;fit 0 0;keep 1;" => 1 | told(4) => 1
            tell "workers 1;tasks 1;fit 0 0;keep 0;" => 0 | told(3) => 0
            tell "workers 1;tasks 1;keep ^2;" => -8
            tell "workers 1;tasks 1;keep 0;^keep 0;" => -7
            tell "workers 1;tasks 1;keep 0;" => 0
            tell "workers 1;tasks 1;keep 1;" => 0 | told(4) => 1
            """);
    }

    private static void termsSigns() throws Exception {
        at("Terms 1", "Numbers: digits, as many as stand there", """
            tell "workers 0000000000000000000000000000000000000012;tasks 0012;fit 000000000011 011 00099;" => 1 | told(0) => 12 | cost(11, 11) => 99
            tell "workers12;tasks2;fit 11 1;weight1 9;keep0;" => 0 | told(0) => 12 | told(4) => 0
            tell "workers 1 ^2;tasks 2;" => -9
            tell "workers ^112;tasks 2;" => -8
            tell "workers ^4294967297;tasks 2;" => -8
            tell "workers ^2147483648;tasks 2;" => -8
            tell "workers ^18446744073709551617;tasks 2;" => -8
            tell "workers ^1000000000000000000000000000000000000000000000000000001;tasks 2;" => -8
            tell "workers ^-1;tasks 2;" => -9
            tell "workers ^+1;tasks 2;" => -9
            tell "workers 1^.0;tasks 2;" => -9
            tell "workers 2;tasks 2;fit 01^;" => -9
            tell "workers 2;tasks 2;fit ^11;" => -8
            tell "workers 2;tasks 2;fit 1 1 1 ^1;" => -9
            tell "workers 2;tasks 2;keep 01;" => 0 | told(4) => 1
            tell "workers 2;tasks 2;keep ^10;" => -8
            tell "workers 2;tasks 2;keep ^{178};" => -9
            tell "workers 2;tasks 2;keep ^/;" => -9
            tell "workers 2;tasks 2;keep ^:;" => -9
            """);
        at("Terms 1", "words: small letters, as many as stand there", """
            tell "^workersx 2;tasks 2;" => -9
            tell "^worker 2;tasks 2;" => -9
            tell "^Workers 2;tasks 2;" => -9
            tell "^workerS 2;tasks 2;" => -9
            tell "^wor kers 2;tasks 2;" => -9
            tell "workers 2;^task 2;" => -9
            tell "workers 2;^taskss 2;" => -9
            tell "workers 2^tasks 2;" => -9
            tell "workers 2;tasks 2;^fits 0 0;" => -9
            tell "workers 2;tasks 2;^fi 0 0;" => -9
            tell "workers 2;tasks 2;^awayworker 0;" => -9
            tell "workers 2;tasks 2;away ^workers 0;" => -9
            tell "workers 2;tasks 2;away ^tasks 0;" => -9
            tell "workers 2;tasks 2;^pairs 0 0;" => -9
            tell "workers 2;tasks 2;^weights 0 0;" => -9
            tell "workers 2;tasks 2;^keeps 0;" => -9
            tell "workers 2;tasks 2;^keepz 0;" => -9
            tell "workers 2;tasks 2;^keepa 0;" => -9
            tell "workers 2;tasks 2;^xeep 0;" => -9
            tell "workers 2;tasks 2;^keex 0;" => -9
            tell "workers 2;tasks 2;^abcd 0;" => -9
            tell "workers 2;tasks 2;^keepkeep 0;" => -9
            tell "workers 2;tasks 2;^{224};" => -9
            tell "workers 2;tasks 2;^`;" => -9
            tell "workers 2;tasks 2;^{123};" => -9
            tell "workers 2;tasks 2;fit^{0}0 0;" => -9
            tell "workers2;tasks2;away worker1;away task1;fit0 0;pair0 0;weight0 5;keep0;" => 1
            """);
        at("Terms 1", "blanks (32) may stand ahead of all these and of \";\", and at the end", """
            tell "   workers   2   ;   tasks   2   ;   fit   0   1   5   ;   away   worker   1   ;   weight   0   9   ;   " => 1
            cost(0, 1) => 5 | told(5) => 1 | weight(0, 1) => 9
            tell "  workers 2 ; tasks 2 ; fit 0 1 ; pair  0  1 ; away  task  0 ; keep  0 ;  " => 1
            tell "workers2;tasks2;" => 0
            tell "^{9}workers 2;tasks 2;" => -9
            tell "workers^{9}2;tasks 2;" => -9
            tell "workers 2^{10};tasks 2;" => -9
            tell "workers 2;tasks 2;^{0}" => -9
            tell "workers 2;tasks 2; ^{160}" => -9
            tell "workers 2;tasks 2;fit 0 0 ^{13};" => -9
            tell "  ^" => -9
            """);
    }

    private static void termsFaults() throws Exception {
        at("Terms 1", "FAULTS, the first from the left, at its first byte", """
            tell "workers ^0;tasks 0;" => -8
            tell "^x workers 0" => -9
            tell "workers 2;tasks ^13;fit 9 9 999 x" => -8
            tell "workers 2;tasks 2;fit ^2 9 999 x" => -8
            tell "workers 2;tasks 2;fit 0 ^9 999 x" => -8
            tell "workers 2;tasks 2;fit 0 0 ^999 x" => -8
            tell "workers 2;tasks 2;fit 0 0 99 ^x" => -9
            tell "workers 2;tasks 2;pair ^0 0 x" => -6
            tell "workers 2;tasks 2;away worker ^2 x" => -8
            tell "workers 2;tasks 2;away worker 0;away worker ^0 x" => -5
            tell "workers 2;tasks 2;weight ^2 100" => -8
            tell "workers 2;tasks 2;keep 0;^keep 2 x" => -7
            tell "workers 2;tasks 2;keep ^2;keep 0;" => -8
            tell "workers   ^013;tasks 2;" => -8
            tell "workers 2;tasks 2;weight 0 ^100;x;" => -8
            tell "workers 2;tasks 2;fit 0 0 ^100;x;" => -8
            tell "workers 2;tasks 2;fit 0 0;pair 0 ^2;x;" => -8
            tell "workers 2;tasks 2;pair ^0 0;x;" => -6
            tell "workers 2;tasks 2;away task ^2;x;" => -8
            tell "workers 2;tasks 2;keep ^2;x;" => -8
            """);
        at("Terms 1", "1 what can't stand there (at the length, if the text ends too early)",
            cuts("workers 2;tasks 2; fit 0 1 5;", 18, "0")
            + cuts("workers 2 ; tasks 2 ; away worker 0 ; away task 1 ; ", 20, "0")
            + cuts("workers 2;tasks 2;keep 0;weight 1 7;", 18, "0")
            + cuts("workers 2;tasks 2;fit 1 0;pair 1 0;", 18, "0").replace("fit 1 0;\" => 0", "fit 1 0;\" => 1") + """
            tell "workers ^x;" => -9
            tell "workers ^;" => -9
            tell "workers 2^,tasks 2;" => -9
            tell "workers 2;tasks 2;^0 0;" => -9
            tell "workers 2;tasks 2;away ^0;" => -9
            tell "workers 2;tasks 2;away ^;" => -9
            tell "workers 2;tasks 2;fit ^a 0;" => -9
            tell "workers 2;tasks 2;keep^;" => -9
            new
            tell "workers 2;tasks 2^~;" => -9
            tell "workers 1^~2;tasks 2;" => -9
            tell "^work~ers 2;tasks 2;" => -9
            tell "workers 2;tasks 2;~fit 0 0;" => 0
            """);
        at("Terms 1", "2 a number that is none such", """
            tell "workers ^0;" => -8 | tell "workers 1^" => -9 | tell "workers 12^" => -9 | tell "workers ^13;" => -8
            tell "workers 2;tasks ^0;" => -8 | tell "workers 2;tasks 1;" => 0 | tell "workers 2;tasks 12;" => 0 | tell "workers 2;tasks ^13;" => -8
            tell "workers 2;tasks 3;fit 1 2 99;" => 1
            tell "workers 2;tasks 3;fit ^2 0;" => -8 | tell "workers 2;tasks 3;fit 0 ^3;" => -8 | tell "workers 2;tasks 3;fit 0 0 ^100;" => -8
            tell "workers 2;tasks 3;away worker 1;away task 2;" => 0
            tell "workers 2;tasks 3;away worker ^2;" => -8 | tell "workers 2;tasks 3;away task ^3;" => -8
            tell "workers 2;tasks 3;fit 1 2;pair 1 2;" => 1
            tell "workers 2;tasks 3;pair ^2 0;" => -8 | tell "workers 2;tasks 3;fit 1 2;pair 1 ^3;" => -8
            tell "workers 2;tasks 3;weight 1 99;" => 0
            tell "workers 2;tasks 3;weight ^2 0;" => -8 | tell "workers 2;tasks 3;weight 1 ^100;" => -8
            tell "workers 2;tasks 3;keep ^2;" => -8
            tell "workers 12;tasks 12;fit 11 11;" => 1
            tell "workers 12;tasks 12;fit ^12 11;" => -8 | tell "workers 12;tasks 12;fit 11 ^12;" => -8
            """);
        at("Terms 1", "3 a second keep (at its word)", """
            tell "workers 2;tasks 2;keep 1;^keep 1;" => -7
            tell "workers 2;tasks 2;keep 0;fit 0 0;   ^keep 1;" => -7
            tell "workers 2;tasks 2;keep 0;^keep 5;" => -7
            tell "workers 2;tasks 2;keep 0;^keep" => -7
            tell "workers 2;tasks 2;keep 0;^keep;" => -7
            tell "workers 2;tasks 2;keep 0;" => 0
            tell "workers 2;tasks 2;keep 0;" => 0
            """);
        at("Terms 1", "4 a PAIR that is no FIT, or of one that is AWAY or not FREE (at its W; ", """
            tell "workers 2;tasks 2;pair   ^0   0;" => -6
            tell "workers 2;tasks 2;fit 0 1;fit 1 0;pair ^0 0;" => -6
            tell "workers 2;tasks 2;fit 0 0;away worker 0;pair ^0 0;" => -6
            tell "workers 2;tasks 2;fit 0 0;away task 0;pair ^0 0;" => -6
            tell "workers 2;tasks 2;fit 0 0;fit 0 1;pair 0 0;pair ^0 1;" => -6
            tell "workers 2;tasks 2;fit 0 0;fit 1 0;pair 0 0;pair ^1 0;" => -6
            tell "workers 2;tasks 2;fit 0 0;pair 0 0;pair ^0 0;" => -6
            tell "workers 2;tasks 2;away task 0;pair 1 ^2;" => -8
            """);
        at("Terms 1", "a W that is AWAY or not FREE ahead of what is behind it", """
            tell "workers 2;tasks 2;away worker 0;pair ^0 2;" => -6
            tell "workers 2;tasks 2;away worker 0;pair ^0 x" => -6
            tell "workers 2;tasks 2;away worker 0;pair ^0" => -6
            tell "workers 2;tasks 2;away worker 0;pair ^0;" => -6
            tell "workers 2;tasks 2;fit 0 0;pair 0 0;pair ^0 2;" => -6
            tell "workers 2;tasks 2;fit 0 0;pair 0 0;pair ^0 x" => -6
            tell "workers 2;tasks 2;fit 0 0;pair 0 0;pair ^0" => -6
            tell "workers 2;tasks 2;away worker 0;pair 1 ^2;" => -8
            tell "workers 2;tasks 2;away worker 0;pair 1 ^x" => -9
            tell "workers 2;tasks 2;away worker 0;pair 1^" => -9
            tell "workers 2;tasks 2;away worker 0;pair ^2 0" => -8
            """);
        at("Terms 1", "5 an away of one that is AWAY, or in a PAIR (at its W, T)", """
            tell "workers 2;tasks 2;away worker 0;away worker   ^0;" => -5
            tell "workers 2;tasks 2;away task 1;away task   ^1;" => -5
            tell "workers 2;tasks 2;fit 0 1;pair 0 1;away worker ^0;" => -5
            tell "workers 2;tasks 2;fit 0 1;pair 0 1;away task ^1;" => -5
            tell "workers 2;tasks 2;fit 0 1;pair 0 1;away task ^1" => -5
            tell "workers 2;tasks 2;fit 0 1;pair 0 1;away worker 1;away task 0;" => 1
            tell "workers 2;tasks 2;away worker 0;away task 0;" => 0
            tell "workers 2;tasks 2;fit 0 1;away worker 0;" => 0
            """);
    }

    // ---- Terms 2

    private static void termsWays() throws Exception {
        String chain = """
            tell "workers 3;tasks 3;keep 0;fit 0 0;fit 1 0;fit 1 1;fit 2 1;fit 2 2;pair 1 0;pair 2 1;" => 2
            """;
        at("Terms 2", "a row of unlike ones, WORKER, TASK, WORKER, .., TASK", """
            tell "workers 3;tasks 3;keep 0;fit 0 0;fit 1 0;fit 1 1;fit 2 0;fit 2 1;pair 1 0;pair 2 1;" => 2 | way() => 0 | wayAt(0) => NSEE | settle(12) => 0
            add(2, 2, 0) => -1 | way() => 6 | wayAt(2) => 1 | wayAt(4) => 2 | wayAt(5) => 2
            """);
        at("Terms 2", "the first a FREE WORKER, the last a FREE TASK, all THERE", chain + """
            way() => 6 | is(1, 2, 0) => -1 | way() => 0 | undo() => 0
            is(0, 0, 0) => -1 | way() => 0 | undo() => 0
            is(1, 1, 0) => 2 | way() => 2 | wayAt(0) => 2 | wayAt(1) => 2 | undo() => 0
            is(0, 1, 0) => 0 | way() => 2 | wayAt(0) => 0 | wayAt(1) => 0 | undo() => 0
            way() => 6 | wayFrom(1, 1) => 0 | wayFrom(2, 1) => 0
            """);
        at("Terms 2", "each WORKER and the TASK behind it a FIT that is no PAIR, each TASK and the WORKER behind it a PAIR", chain + """
            wayAt(0) => 0 | wayAt(1) => 0 | wayAt(2) => 1 | wayAt(3) => 1 | wayAt(4) => 2 | wayAt(5) => 2
            drop(1, 1) => 0 | way() => 0 | undo() => 0 | drop(2, 2) => 0 | way() => 0
            tell "workers 2;tasks 2;fit 0 0;fit 1 1;" => 2 | way() => 0
            tell "workers 2;tasks 2;fit 0 0;fit 1 0;" => 1 | way() => 0
            """);
        at("Terms 2", "It is DONE: its FITS become PAIRS, its PAIRS none", chain + """
            settle(1) => 1 | told(3) => 3 | partner(0, 0) => 0 | partner(0, 1) => 1 | partner(0, 2) => 2 | print() => 198
            """
            + "tell \"workers 12;tasks 12;keep 0;\" => 0\n" + from(0, 11, "add(#, #, 0) => -1")
            + from(1, 11, "add(#, @, 0) => -1") + from(1, 11, "pair(#, @) => #")
            + "way() => 24 | wayAt(0) => 0 | wayAt(22) => 11 | wayAt(23) => 11 | wayAt(24) => NSEE | settle(1) => 1\n"
            + from(0, 11, "partner(0, #) => #"));
        at("Terms 2", "THE WAY: of the least WORKER from which there is one, the shortest", """
            tell "workers 3;tasks 3;keep 0;fit 0 0;fit 1 0;fit 1 1;fit 2 2;pair 1 0;" => 1
            way() => 4 | wayAt(0) => 0 | wayAt(1) => 0 | wayAt(2) => 1 | wayAt(3) => 1
            tell "workers 3;tasks 2;keep 0;fit 0 0;fit 1 0;fit 2 1;pair 1 0;" => 1 | way() => 2 | wayAt(0) => 2 | wayAt(1) => 1
            tell "workers 3;tasks 3;keep 0;fit 0 0;fit 0 2;fit 1 0;fit 1 1;pair 1 0;" => 1 | way() => 2 | wayAt(0) => 0 | wayAt(1) => 2
            tell "workers 12;tasks 1;keep 0;fit 11 0;" => 0 | way() => 2 | wayAt(0) => 11
            """);
        at("Terms 2", "of alike short ones the first (by its TASKS in order, the lesser number first)", """
            tell "workers 1;tasks 3;keep 0;fit 0 2;fit 0 1;" => 0 | wayAt(1) => 1
            tell "workers 3;tasks 4;keep 0;fit 0 0;fit 0 1;fit 1 0;fit 1 3;fit 2 1;fit 2 2;pair 1 0;pair 2 1;" => 2
            way() => 4 | wayAt(1) => 0 | wayAt(2) => 1 | wayAt(3) => 3
            tell "workers 3;tasks 4;keep 0;fit 0 0;fit 0 1;fit 2 0;fit 2 3;fit 1 1;fit 1 2;pair 2 0;pair 1 1;" => 2
            way() => 4 | wayAt(1) => 0 | wayAt(2) => 2 | wayAt(3) => 3
            tell "workers 2;tasks 4;keep 0;fit 0 1;fit 1 1;fit 1 3;fit 1 2;pair 1 1;" => 1 | way() => 4 | wayAt(3) => 2
            """);
        at("Terms 2", "PAIRS are MOST, if there is no WAY", """
            way() => 0 | most() => 0 | told(3) => 0
            tell "workers 2;tasks 2;keep 0;fit 0 0;fit 1 0;pair 1 0;" => 1 | way() => 0 | most() => 1 | told(7) => 1 | told(8) => 2
            tell "workers 2;tasks 2;keep 0;fit 0 0;fit 0 1;fit 1 0;pair 0 0;" => 1 | way() => 4 | most() => 2
            """);
    }

    private static void termsKeep() throws Exception {
        at("Terms 2", "With KEEP behind each text(), and each act of 4. that is not refused", """
            tell "workers 3;tasks 3;fit 0 0;fit 1 0;fit 1 1;fit 0 2;" => 2 | told(3) => 2
            add(2, 1, 0) => -1 | told(3) => 3 | print() => 522
            drop(2, 1) => 0 | told(3) => 2 | add(2, 0, 0) => -1 | told(3) => 3
            is(1, 0, 0) => 2 | told(3) => 2 | is(1, 0, 1) => -1 | told(3) => 3
            part(0) => 2 | told(3) => 3 | pair(0, 0) => 2 | told(3) => 3 | weight(0, 5) => 1 | told(3) => 3
            keep(0) => 1 | part(0) => 2 | told(3) => 2 | keep(1) => 0 | told(3) => 3
            tell "workers 2;tasks 2;keep 0;fit 0 0;fit 1 1;" => 0 | told(3) => 0
            add(0, 1, 0) => -1 | told(3) => 0 | drop(0, 1) => 0 | told(3) => 0 | is(0, 0, 0) => -1 | is(0, 0, 1) => -1 | told(3) => 0
            weight(0, 3) => 1 | told(3) => 0 | pair(0, 0) => 1 | told(3) => 1 | part(0) => 0 | told(3) => 0 | keep(0) => 0 | told(3) => 0
            keep(2) => IAE | told(3) => 0 | told(4) => 0
            """);
        at("Terms 2", "(but settle(), trade(), undo())", """
            tell "workers 3;tasks 3;keep 0;fit 0 0 9;fit 0 1 1;fit 1 0 1;fit 1 1 9;fit 2 2;" => 0
            settle(1) => 1 | told(3) => 1 | settle(1) => 1 | told(3) => 2 | trade() => 16 | told(3) => 2 | undo() => 2 | told(3) => 2
            keep(1) => 0 | told(3) => 3 | undo() => 2 | told(3) => 2 | undo() => 1 | told(3) => 1 | undo() => 0 | told(3) => 0
            """);
        at("Terms 2", "as long as there is a WAY, THE WAY is DONE",
            "tell \"workers 12;tasks 12;keep 0;\" => 0\n" + each(12, 12, "add(#, @, 1) => -1")
            + "told(3) => 0 | keep(1) => 0 | told(3) => 12 | told(9) => 12\n" + from(0, 11, "partner(0, #) => #")
            + """
            tell "workers 3;tasks 3;fit 0 0;fit 0 1;fit 1 0;fit 1 2;fit 2 0;" => 3
            partner(0, 0) => 1 | partner(0, 1) => 2 | partner(0, 2) => 0
            """);
    }

    private static void termsPhases() throws Exception {
        at("Terms 2", "PHASES, in thought, from no PAIRS on", """
            tell "workers 2;tasks 2;fit 0 0;fit 1 1;" => 2 | phases(0) => 1 | phases(1) => 2 | phases(2) => 2 | phases(3) => 2
            tell "workers 2;tasks 2;keep 0;fit 0 0;fit 0 1;fit 1 1;pair 0 1;" => 1 | phased(0) => 0 | phased(1) => 1 | partner(0, 0) => 1
            """);
        at("Terms 2", "FREE WORKERS have LAYER 0", """
            tell "workers 2;tasks 2;fit 0 0;fit 1 1;away worker 0;" => 1 | phases(0) => 1 | phases(1) => 1 | phased(0) => -1 | phased(1) => 1
            is(0, 1, 0) => 1 | phases(0) => 0 | phases(1) => 0
            """);
        at("Terms 2", "a TASK that a WORKER of LAYER k has as a FIT that is no PAIR, and that has none yet, has LAYER k and 1", """
            tell "workers 3;tasks 3;fit 0 0;fit 0 1;fit 1 0;fit 1 1;fit 2 0;fit 2 1;" => 2
            phases(0) => 1 | phases(1) => 2 | phases(2) => 2 | phases(3) => 2 | phased(0) => 0 | phased(1) => 1 | phased(2) => -1
            tell "workers 2;tasks 2;fit 0 0;fit 1 1;away task 1;" => 1 | phases(1) => 1 | phased(1) => -1
            """);
        // the way of worker 1 is found in the second phase, the longer one of worker 4 in the third
        at("Terms 2", "if any such TASK is FREE, these LAYERS are the last", """
            tell "workers 5;tasks 5;fit 0 0;fit 0 1;fit 1 0;fit 2 2;fit 2 3;fit 3 3;fit 3 4;fit 4 2;" => 5
            phases(0) => 3 | phases(1) => 5 | phases(2) => 3 | phases(3) => 6
            phased(0) => 1 | phased(1) => 0 | phased(2) => 3 | phased(3) => 4 | phased(4) => 2
            """);
        at("Terms 2", "else the WORKERS paired with such TASKS have LAYER k and 2", """
            tell "workers 2;tasks 2;fit 0 0;fit 0 1;fit 1 0;" => 2 | phases(0) => 2 | phases(1) => 2 | phases(2) => 1 | phases(3) => 4
            phased(0) => 1 | phased(1) => 0
            """);
        // in the second phase: worker 2, task 0, on to worker 0, task 2; without that fit task 0 is in vain
        at("Terms 2", "Then from each FREE WORKER, in order, a WAY is sought, deep first", """
            tell "workers 2;tasks 1;fit 0 0;fit 1 0;" => 1 | phased(0) => 0 | phased(1) => -1
            tell "workers 3;tasks 4;fit 0 0;fit 0 2;fit 1 0;fit 1 1;fit 1 3;fit 2 0;fit 2 1;" => 3
            phases(0) => 2 | phases(1) => 3 | phases(2) => 2 | phases(3) => 4 | phased(0) => 2 | phased(1) => 1 | phased(2) => 0
            drop(0, 2) => 0 | phases(0) => 2 | phases(3) => 4 | phased(0) => 0 | phased(1) => 3 | phased(2) => 1
            """);
        at("Terms 2", "of such a TASK, if it is FREE, the WAY is found, else on from the WORKER with which it is paired", """
            tell "workers 1;tasks 2;fit 0 1;" => 1 | phased(0) => 1 | phases(3) => 2
            tell "workers 3;tasks 3;fit 0 0;fit 0 1;fit 1 0;fit 2 2;" => 3 | phases(0) => 2 | phases(1) => 3 | phases(2) => 2 | phases(3) => 4
            phased(0) => 1 | phased(1) => 0 | phased(2) => 2
            tell "workers 4;tasks 4;fit 0 0;fit 0 1;fit 1 1;fit 1 2;fit 2 2;fit 2 3;fit 3 0;" => 4
            phases(0) => 2 | phases(2) => 3 | phases(3) => 8 | phased(0) => 1 | phased(1) => 2 | phased(2) => 3 | phased(3) => 0
            """);
        at("Terms 2", "a WAY that is found is DONE at once", """
            tell "workers 3;tasks 3;fit 0 0;fit 1 0;fit 1 1;fit 2 1;fit 2 2;" => 3 | phases(0) => 1 | phases(1) => 3 | phases(2) => 3
            phased(0) => 0 | phased(1) => 1 | phased(2) => 2
            tell "workers 4;tasks 4;fit 0 0;fit 0 2;fit 1 1;fit 1 3;fit 2 0;fit 2 1;fit 3 0;fit 3 1;" => 4
            phases(0) => 2 | phases(1) => 4 | phases(2) => 2 | phases(3) => 4
            phased(0) => 2 | phased(1) => 3 | phased(2) => 0 | phased(3) => 1
            """);
        at("Terms 2", "of a WORKER the TASKS of the next LAYER in order by FITS", """
            tell "workers 2;tasks 3;fit 0 2;fit 0 1;fit 1 1;fit 1 2;" => 2 | phased(0) => 1 | phased(1) => 2
            tell "workers 3;tasks 4;fit 0 0;fit 0 3;fit 1 1;fit 1 2;fit 2 1;fit 2 0;" => 3 | phases(0) => 2 | phases(3) => 4
            phased(2) => 0 | phased(0) => 3 | phased(1) => 1
            tell "workers 3;tasks 3;fit 0 0;fit 0 1;fit 1 1;fit 1 2;fit 2 0;fit 2 1;" => 3
            phases(0) => 2 | phases(1) => 3 | phases(2) => 2 | phases(3) => 4 | phased(0) => 0 | phased(1) => 2 | phased(2) => 1
            """);
        at("Terms 2", "(if that has the next LAYER)", """
            tell "workers 3;tasks 4;fit 0 0;fit 0 1;fit 0 2;fit 1 1;fit 1 3;fit 2 0;" => 3
            phases(0) => 2 | phases(1) => 3 | phases(2) => 2 | phases(3) => 4 | phased(0) => 2 | phased(1) => 1 | phased(2) => 0
            """);
        at("Terms 2", "who was looked at in this PHASE is not looked at again in it (be it that a WAY goes through it, be it in vain)", """
            tell "workers 4;tasks 3;fit 0 0;fit 1 0;fit 2 0;fit 0 1;fit 3 1;fit 3 2;" => 3
            phases(0) => 2 | phases(1) => 3 | phases(2) => 2 | phases(3) => 6
            phased(0) => 1 | phased(1) => 0 | phased(2) => -1 | phased(3) => 2
            tell "workers 4;tasks 4;fit 0 0;fit 0 2;fit 1 1;fit 1 0;fit 1 3;fit 2 0;fit 3 0;fit 3 1;" => 4
            phases(0) => 2 | phases(1) => 4 | phases(2) => 2 | phases(3) => 4
            phased(0) => 2 | phased(1) => 3 | phased(2) => 0 | phased(3) => 1
            tell "workers 5;tasks 5;fit 0 0;fit 0 3;fit 1 1;fit 1 4;fit 2 2;fit 2 3;fit 3 2;fit 4 0;fit 4 1;" => 5
            phases(0) => 2 | phases(1) => 5 | phases(2) => 3 | phases(3) => 4
            phased(0) => 0 | phased(1) => 4 | phased(2) => 3 | phased(3) => 2 | phased(4) => 1
            """);
        at("Terms 2", "PHASES go on as long as LAYERS come to a FREE TASK", """
            phases(0) => 0 | add(0, 0, 0) => -1 | phases(0) => 1
            tell "workers 2;tasks 1;fit 0 0;fit 1 0;" => 1 | phases(0) => 1 | phases(1) => 1
            tell "workers 2;tasks 2;fit 0 0;fit 1 0;" => 1 | phases(0) => 1 | phases(1) => 1 | phases(2) => 1 | phases(3) => 2
            """ + full(12, 12) + "phases(0) => 1 | phases(1) => 12 | phases(2) => 12 | phases(3) => 2 | phased(11) => 11\n"
            + "tell \"workers 12;tasks 12;\" => 0\n" + from(0, 10, "add(#, #, 0) => -1") + from(1, 11, "add(@, #, 0) => -1") + "add(11, 0, 0) => -1\n"
            + "phases(0) => 2 | phases(1) => 12 | phases(2) => 11 | phases(3) => 24 | phased(11) => 0\n" + from(1, 11, "phased(@) => #")
            + "new\n tell \"workers 12;tasks 12;\" => 0\n" + from(0, 9, "add(#, #, 0) => -1") + from(1, 10, "add(@, #, 0) => -1")
            + "add(10, 0, 0) => -1 | add(11, 10, 0) => -1 | add(11, 11, 0) => -1\n"
            + "phases(0) => 2 | phases(1) => 12 | phases(2) => 11 | phases(3) => 24 | phased(10) => 0 | phased(11) => 11\n" + from(1, 10, "phased(@) => #"));
    }

    // ---- Terms 3

    private static void termsMost() throws Exception {
        at("Terms 3", "NU: how many PAIRS M has", "most() => 0\n" + full(12, 12) + "most() => 12 | told(3) => 0\n" + full(12, 1) + "most() => 1\n"
            + full(1, 12) + "most() => 1");
        at("Terms 3", "(PAIRS as they are, DONE to MOST in thought by THE WAY again and again: M.)", """
            tell "workers 2;tasks 2;keep 0;fit 0 0;fit 0 1;fit 1 0;pair 0 0;" => 1 | most() => 2 | reached(0) => 0 | cover(0) => 3 | hall(0) => 0 | of(0, 1, 2) => 3
            told(3) => 1 | partner(0, 0) => 0 | partner(0, 1) => -1 | way() => 4 | told(10) => 0 | reached(1) => 0
            """);
        at("Terms 3", "COVER: WORKERS that are THERE and not REACHED, and REACHED TASKS", """
            cover(0) => 0 | cover(1) => 0 | add(0, 0, 0) => -1 | cover(0) => 1 | cover(1) => 0
            tell "workers 4;tasks 4;fit 0 0;fit 1 0;fit 2 1;fit 2 2;away worker 3;" => 2 | reached(0) => 3 | reached(1) => 1 | cover(0) => 4 | cover(1) => 1
            is(0, 0, 0) => 0 | cover(0) => 6 | cover(1) => 0 | is(0, 3, 1) => -1 | cover(0) => 6 | cover(1) => 0
            """);
        at("Terms 3", "REACHED from FREE WORKERS of M: those, all TASKS that are THERE and FITS of REACHED WORKERS, all WORKERS paired by M with REACHED TASKS", """
            reached(0) => 1 | reached(1) => 0 | add(0, 0, 0) => -1 | reached(0) => 0 | reached(1) => 0
            is(1, 0, 0) => 0 | reached(0) => 1 | reached(1) => 0 | is(0, 0, 0) => -1 | reached(0) => 0
            tell "workers 4;tasks 4;fit 0 0;fit 1 0;fit 1 1;fit 2 1;fit 3 3;fit 3 2;" => 3 | reached(0) => 7 | reached(1) => 3
            """ + "tell \"workers 12;tasks 12;away task 11;\" => 0\n" + from(0, 10, "add(#, #, 0) => -1") + from(1, 11, "add(#, @, 0) => -1")
            + "reached(0) => 4095 | reached(1) => 2047 | told(3) => 11 | drop(5, 4) => 0 | reached(0) => 4064 | reached(1) => 2016\n" + full(12, 11) + "reached(0) => 4095 | reached(1) => 2047\n" + full(12, 12) + "reached(0) => 0 | reached(1) => 0");
        at("Terms 3", "(as many together as NU; each FIT of two that are THERE has one of them)", """
            cover(0) => 0 | cover(1) => 0 | most() => 0
            tell "workers 4;tasks 4;fit 0 0;fit 1 0;fit 1 1;fit 2 1;fit 3 3;fit 3 2;" => 3 | cover(0) => 8 | cover(1) => 3
            tell "workers 2;tasks 2;fit 0 0;fit 1 1;away worker 1;" => 1 | cover(0) => 1 | cover(1) => 0
            """ + full(12, 12) + "cover(0) => 4095 | cover(1) => 0\n" + full(12, 11) + "cover(0) => 0 | cover(1) => 2047");
        at("Terms 3", "(Which are FREE may differ by M; who is REACHED does not.)", """
            tell "workers 3;tasks 1;keep 0;fit 0 0;fit 1 0;fit 2 0;" => 0 | reached(0) => 7 | reached(1) => 1
            pair(2, 0) => 1 | reached(0) => 7 | reached(1) => 1 | pair(1, 0) => 1 | reached(0) => 7 | reached(1) => 1 | cover(1) => 1
            """);
    }

    private static void termsPairings() throws Exception {
        at("Terms 3", "All of these are THERE", """
            tell "workers 3;tasks 3;fit 0 0;fit 1 0;fit 2 0;fit 1 1;away worker 2;away task 1;" => 1
            reached(0) => 3 | reached(1) => 1 | cover(0) => 0 | cover(1) => 1 | hall(1) => 3 | is(1, 0, 0) => 0 | reached(0) => 3 | reached(1) => 0 | cover(0) => 0 | cover(1) => 0
            is(0, 0, 0) => -1 | is(0, 1, 0) => -1 | reached(0) => 0 | cover(0) => 0 | most() => 0
            """);
        at("Terms 3", "A PAIRING: any set of FITS that could be PAIRS; it is MOST, if it has NU", """
            many() => 1 | add(0, 0, 0) => -1 | many() => 1 | is(0, 0, 0) => 0 | many() => 1 | most() => 0
            tell "workers 1;tasks 2;keep 0;fit 0 0;fit 0 1;" => 0 | many() => 2
            """);
        at("Terms 3", "A WORKER, TASK is NEEDED, if all MOST PAIRINGS have it", """
            of(0, 0, 0) => 0 | of(1, 0, 0) => 0 | add(0, 0, 0) => -1 | of(0, 0, 0) => 1 | of(1, 0, 0) => 1
            is(0, 0, 0) => 0 | of(0, 0, 0) => 0 | of(1, 0, 0) => 0
            tell "workers 2;tasks 1;fit 0 0;fit 1 0;" => 1 | of(0, 0, 0) => 0 | of(0, 1, 0) => 0 | of(1, 0, 0) => 1
            """);
        at("Terms 3", "a FIT is ALWAYS (in all MOST PAIRINGS), SOMETIMES (in some), NEVER (in none, or one of it is AWAY)", """
            add(0, 0, 0) => -1 | fit(0, 0) => 3 | is(0, 0, 0) => 0 | fit(0, 0) => 1 | is(0, 0, 1) => -1 | is(1, 0, 0) => 0 | fit(0, 0) => 1
            tell "workers 2;tasks 1;fit 0 0;fit 1 0;" => 1 | fit(0, 0) => 2 | fit(1, 0) => 2
            tell "workers 2;tasks 2;fit 0 0;fit 0 1;fit 1 1;" => 2 | fit(0, 0) => 3 | fit(0, 1) => 1 | fit(1, 1) => 3
            add(1, 0, 0) => -1 | fit(0, 0) => 2 | fit(0, 1) => 2 | fit(1, 1) => 2 | fit(1, 0) => 2
            """);
        at("Terms 3", "LACK of a set of WORKERS (bits; those AWAY don't count): how many, less how many TASKS that are THERE they have FITS with together", """
            tell "workers 3;tasks 3;fit 0 0;fit 0 1;fit 0 2;fit 1 2;fit 2 2;" => 2
            lack(0) => 0 | lack(1) => -2 | lack(2) => 0 | lack(6) => 1 | lack(7) => 0
            is(0, 1, 0) => 2 | lack(6) => 0 | lack(2) => 0 | lack(7) => -1 | is(1, 2, 0) => 2 | lack(6) => 1 | lack(1) => -1
            is(0, 0, 0) => 0 | lack(1) => 0 | lack(7) => 1 | is(0, 2, 0) => -1 | lack(7) => 0
            """);
        at("Terms 3", "HALL: the WORKERS REACHED", """
            hall(1) => 1 | add(0, 0, 0) => -1 | hall(1) => 0 | hall(0) => 0
            tell "workers 4;tasks 4;fit 0 0;fit 1 0;fit 1 1;fit 2 1;fit 3 3;fit 3 2;" => 3 | hall(1) => 7 | reached(0) => 7 | hall(0) => 1
            """);
    }

    private static void termsCosts() throws Exception {
        at("Terms 3", "COST of a PAIRING: that of its FITS together", """
            cheap(0) => 0 | told(9) => 0
            tell "workers 3;tasks 3;keep 0;fit 0 0 7;fit 1 1 11;fit 2 2 13;" => 0 | cheap(0) => 31 | told(9) => 0
            settle(2) => 2 | told(9) => 18 | cheap(0) => 31 | settle(1) => 1 | told(9) => 31
            """ + "tell \"workers 12;tasks 12;\" => 0\n" + from(0, 11, "add(#, #, 99) => -1") + "cheap(0) => 1188 | told(9) => 1188");
        at("Terms 3", "CHEAP: of all MOST PAIRINGS one of least COST", """
            cheap(0) => 0 | cheapest(0) => -1
            tell "workers 2;tasks 2;fit 0 0;fit 0 1 99;fit 1 0 99;" => 2 | cheap(0) => 198 | cheapest(0) => 1 | cheapest(1) => 0
            tell "workers 2;tasks 2;fit 0 0 9;fit 0 1 1;fit 1 0 1;fit 1 1 9;" => 2 | cheap(0) => 2 | cheapest(0) => 1 | cheapest(1) => 0
            """);
        at("Terms 3", "of alike ones the first (by WORKERS in order: the lesser TASK, none behind all)", """
            tell "workers 2;tasks 2;fit 0 0;fit 0 1;fit 1 0;fit 1 1;" => 2 | cheapest(0) => 0 | cheapest(1) => 1
            tell "workers 2;tasks 1;fit 0 0 4;fit 1 0 4;" => 1 | cheapest(0) => 0 | cheapest(1) => -1
            tell "workers 2;tasks 1;fit 0 0 4;fit 1 0 3;" => 1 | cheapest(0) => -1 | cheapest(1) => 0
            tell "workers 3;tasks 12;fit 0 11;fit 1 11;fit 2 0;" => 2 | cheapest(0) => 11 | cheapest(1) => -1 | cheapest(2) => 0
            tell "workers 3;tasks 2;fit 0 1 1;fit 1 0 1;fit 2 0;fit 2 1;" => 2 | cheapest(0) => 1 | cheapest(1) => -1 | cheapest(2) => 0
            tell "workers 1;tasks 12;fit 0 11 2;fit 0 10 2;" => 1 | cheapest(0) => 10
            """);
        at("Terms 3", "(NONE, if NU is 0)", """
            narrow() => -1 | add(0, 0, 0) => -1 | narrow() => 0 | is(0, 0, 0) => 0 | narrow() => -1
            """);
        at("Terms 3", "NARROW: the least C so that FITS of a COST of C at most alone have a PAIRING of NU", """
            add(0, 0, 0) => -1 | narrow() => 0 | add(0, 0, 99) => 0 | narrow() => 99
            tell "workers 2;tasks 2;fit 0 0;fit 0 1 5;fit 1 0 7;" => 2 | narrow() => 7
            tell "workers 2;tasks 2;fit 0 0 50;fit 1 1 50;fit 0 1 1;fit 1 0 99;" => 2 | narrow() => 50
            tell "workers 2;tasks 2;fit 0 0 50;fit 1 0 3;" => 1 | narrow() => 3
            """);
    }

    private static void termsChosenAndRounds() throws Exception {
        at("Terms 3", "CHOSEN: WORKERS that are THERE", """
            add(0, 0, 0) => -1 | chosen(0) => 1 | is(0, 0, 0) => 0 | chosen(0) => 0 | chosen(1) => 0
            tell "workers 3;tasks 3;fit 0 0;fit 1 1;fit 2 2;away worker 1;weight 1 99;" => 2 | chosen(0) => 5 | chosen(1) => 2
            is(0, 1, 1) => -1 | chosen(0) => 7 | chosen(1) => 101 | is(0, 0, 0) => 0 | chosen(0) => 6
            """);
        at("Terms 3", "gone through by WEIGHTS, the greatest first, of alike ones by numbers", """
            tell "workers 3;tasks 1;fit 0 0;fit 1 0;fit 2 0;" => 1 | chosen(0) => 1 | chosen(1) => 1
            weight(2, 2) => 1 | chosen(0) => 4 | chosen(1) => 2 | weight(1, 2) => 1 | chosen(0) => 2 | weight(0, 0) => 1 | chosen(0) => 2
            weight(1, 0) => 2 | weight(2, 0) => 2 | chosen(0) => 1 | chosen(1) => 0
            """);
        at("Terms 3", "each that can be in a PAIRING with all that are CHOSEN by then is CHOSEN, too", """
            chosen(0) => 0 | chosen(1) => 0
            tell "workers 3;tasks 2;fit 0 0;fit 0 1;fit 1 0;fit 2 0;weight 2 9;" => 2 | chosen(0) => 5 | chosen(1) => 10
            tell "workers 2;tasks 2;fit 0 0;fit 0 1;fit 1 0;weight 0 9;" => 2 | chosen(0) => 3 | chosen(1) => 10
            tell "workers 2;tasks 2;fit 0 0;fit 1 0;weight 1 0;away worker 0;" => 1 | chosen(0) => 2 | chosen(1) => 0
            """);
        at("Terms 3", "(No PAIRING has WORKERS of greater WEIGHTS together: WORTH.)", """
            tell "workers 3;tasks 2;fit 0 0;fit 0 1;fit 1 0;fit 2 1;weight 0 9;weight 1 5;weight 2 6;" => 2 | chosen(0) => 5 | chosen(1) => 15
            tell "workers 3;tasks 3;fit 0 0;fit 1 0;fit 2 0;fit 2 1;weight 0 9;weight 1 8;weight 2 99;" => 2 | chosen(0) => 5 | chosen(1) => 108
            """);
        at("Terms 3", "FITS of two that are THERE, in order (of WORKERS, then TASKS), get a ROUND each (from 0 on)", """
            rounds() => 0 | round(0, 0) => -1 | add(0, 0, 0) => -1 | rounds() => 1 | round(0, 0) => 0 | is(0, 0, 0) => 0 | rounds() => 0 | round(0, 0) => -1
            tell "workers 1;tasks 12;fit 0 11;fit 0 5;fit 0 0;" => 1 | rounds() => 3 | round(0, 0) => 0 | round(0, 5) => 1 | round(0, 11) => 2
            is(1, 0, 0) => 0 | rounds() => 2 | round(0, 0) => -1 | round(0, 5) => 0
            """);
        // 2-0: a is 0, b is 2, as the task has 1 and 0; so 1-0 changes to 2
        at("Terms 3", "a is the least ROUND that none of the WORKER's FITS has yet, b likewise of the TASK", """
            tell "workers 3;tasks 1;fit 0 0;fit 1 0;fit 2 0;" => 1 | round(0, 0) => 1 | round(1, 0) => 2 | round(2, 0) => 0 | rounds() => 3
            tell "workers 1;tasks 3;fit 0 0;fit 0 1;fit 0 2;" => 1 | round(0, 0) => 0 | round(0, 1) => 1 | round(0, 2) => 2
            tell "workers 3;tasks 3;keep 0;fit 0 0;fit 0 2;fit 1 2;fit 2 0;fit 2 1;" => 0 | round(0, 0) => 1 | round(0, 2) => 0
            round(1, 2) => 1 | round(2, 0) => 0 | round(2, 1) => 1 | rounds() => 2
            """);
        at("Terms 3", "If none of the TASK's has a, it gets a", """
            tell "workers 2;tasks 2;fit 0 0;fit 0 1;fit 1 1;" => 2 | round(0, 0) => 0 | round(0, 1) => 1 | round(1, 1) => 0 | rounds() => 2
            """);
        at("Terms 3", "Else first FITS change their ROUNDS", """
            tell "workers 2;tasks 1;fit 0 0;" => 1 | round(0, 0) => 0 | add(1, 0, 0) => -1 | round(0, 0) => 1 | round(1, 0) => 0
            drop(0, 0) => 0 | round(1, 0) => 0 | round(0, 0) => -1 | rounds() => 1
            """);
        // behind 0-0: 1-0 has a 0 (its worker has none), b 1; the task's one of round 0 becomes 1
        at("Terms 3", "the TASK's one of ROUND a, of its WORKER that of ROUND b, of the TASK of that the one of a, and so on, as far as there are such: a becomes b, b becomes a; then it gets a", """
            tell "workers 2;tasks 2;fit 0 0;fit 1 0;" => 1 | round(0, 0) => 1 | round(1, 0) => 0
            tell "workers 2;tasks 2;fit 0 0;fit 0 1;fit 1 0;" => 2 | round(0, 0) => 1 | round(0, 1) => 0 | round(1, 0) => 0
            tell "workers 3;tasks 2;fit 0 0;fit 0 1;fit 1 1;fit 2 0;" => 2 | rounds() => 2
            round(0, 0) => 1 | round(0, 1) => 0 | round(1, 1) => 1 | round(2, 0) => 0
            tell "workers 3;tasks 3;keep 0;fit 0 0;fit 0 1;fit 1 0;fit 1 1;fit 2 1;" => 0 | rounds() => 3
            round(0, 0) => 1 | round(0, 1) => 2 | round(1, 0) => 0 | round(1, 1) => 1 | round(2, 1) => 0
            tell "workers 3;tasks 3;keep 0;fit 0 0;fit 1 0;fit 1 2;fit 2 0;fit 2 2;" => 0 | rounds() => 3
            round(0, 0) => 1 | round(1, 0) => 2 | round(1, 2) => 0 | round(2, 0) => 0 | round(2, 2) => 1
            tell "workers 4;tasks 3;keep 0;fit 0 0;fit 0 1;fit 1 1;fit 1 2;fit 2 0;fit 3 2;" => 0 | rounds() => 2
            round(0, 0) => 0 | round(0, 1) => 1 | round(1, 1) => 0 | round(1, 2) => 1 | round(2, 0) => 1 | round(3, 2) => 0
            tell "workers 4;tasks 3;keep 0;fit 0 2;fit 1 0;fit 2 2;fit 3 0;" => 0 | rounds() => 2
            round(0, 2) => 1 | round(1, 0) => 1 | round(2, 2) => 0 | round(3, 0) => 0
            new
            tell "workers 4;tasks 3;keep 0;fit 0 1;fit 0 2;fit 1 0;fit 2 1;fit 3 0;" => 0 | rounds() => 2
            round(0, 1) => 1 | round(0, 2) => 0 | round(1, 0) => 1 | round(2, 1) => 0 | round(3, 0) => 0
            """);
        at("Terms 3", "(So two of one WORKER, one TASK never have the same", full(2, 2) + """
            round(0, 0) => 1 | round(0, 1) => 0 | round(1, 0) => 0 | round(1, 1) => 1 | rounds() => 2
            """);
        at("Terms 3", "there are as many ROUNDS as the most FITS that any has", full(12, 12) + "rounds() => 12\n" + full(1, 12) + "rounds() => 12\n"
            + full(12, 1) + "rounds() => 12 | round(0, 0) => 1 | round(10, 0) => 11 | round(11, 0) => 0\n" + full(3, 5) + "rounds() => 5");
    }

    private static void termsTrade() throws Exception {
        at("Terms 3", "of all two WORKERS v, w (v less than w) that are paired, v with s, w with t, and have FITS v t and w s", """
            add(0, 0, 9) => -1 | trade() => 0
            tell "workers 2;tasks 2;keep 0;fit 0 0 9;fit 0 1;fit 1 0;fit 1 1 9;" => 0 | trade() => 0 | pair(0, 0) => 1 | trade() => 0 | pair(1, 1) => 2
            drop(0, 1) => 0 | trade() => 0 | undo() => 2 | drop(1, 0) => 0 | trade() => 0 | undo() => 2 | trade() => 18 | partner(0, 0) => 1 | partner(0, 1) => 0
            is(0, 1, 0) => 0 | trade() => 0
            """);
        at("Terms 3", "that by which COST of the PAIRS is least, if these two change their TASKS", """
            tell "workers 3;tasks 3;keep 0;fit 0 0 9;fit 1 1 9;fit 2 2 9;fit 0 1 5;fit 1 0 5;fit 1 2 1;fit 2 1 1;pair 0 0;pair 1 1;pair 2 2;" => 3
            trade() => 16 | told(9) => 11 | partner(0, 0) => 0 | partner(0, 1) => 2 | partner(0, 2) => 1 | told(3) => 3 | trade() => 0
            tell "workers 3;tasks 3;keep 0;fit 0 0 9;fit 1 1 9;fit 2 2 9;fit 0 1 5;fit 1 0 5;fit 0 2 4;fit 2 0 4;pair 0 0;pair 1 1;pair 2 2;" => 3
            trade() => 10 | told(9) => 17 | partner(0, 0) => 2 | partner(0, 1) => 1 | partner(0, 2) => 0
            """);
        at("Terms 3", "of alike ones the first v, then w", """
            tell "workers 4;tasks 4;keep 0;fit 0 0 5;fit 1 1 5;fit 2 2 5;fit 3 3 5;fit 2 3;fit 3 2;fit 1 2;fit 2 1;pair 0 0;pair 1 1;pair 2 2;pair 3 3;" => 4
            trade() => 10 | partner(0, 1) => 2 | partner(0, 2) => 1 | partner(0, 3) => 3
            tell "workers 3;tasks 3;keep 0;fit 0 0 5;fit 1 1 5;fit 2 2 5;fit 0 1;fit 1 0;fit 0 2;fit 2 0;pair 0 0;pair 1 1;pair 2 2;" => 3
            trade() => 10 | partner(0, 0) => 1 | partner(0, 1) => 0 | partner(0, 2) => 2
            tell "workers 3;tasks 3;keep 0;fit 0 0 5;fit 1 1 5;fit 2 2 5;fit 0 1 1;fit 1 0;fit 0 2;fit 2 0;pair 0 0;pair 1 1;pair 2 2;" => 3
            trade() => 10 | partner(0, 0) => 2 | partner(0, 1) => 1 | partner(0, 2) => 0
            """);
        at("Terms 3", "none, if it is not less than it is", """
            trade() => 0
            tell "workers 2;tasks 2;keep 0;fit 0 0 4;fit 0 1 3;fit 1 0 5;fit 1 1 4;pair 0 0;pair 1 1;" => 2 | trade() => 0 | partner(0, 0) => 0 | told(10) => 0
            add(1, 0, 4) => 5 | trade() => 1 | partner(0, 0) => 1 | told(10) => 2 | trade() => 0
            tell "workers 2;tasks 2;keep 0;fit 0 0 4;fit 0 1 9;fit 1 0 9;fit 1 1 4;pair 0 0;pair 1 1;" => 2 | trade() => 0 | partner(0, 0) => 0
            tell "workers 2;tasks 2;keep 0;fit 0 0 9;fit 0 1;fit 1 1 9;pair 0 0;pair 1 1;" => 2 | trade() => 0
            tell "workers 2;tasks 2;keep 0;fit 0 0 9;fit 0 1;fit 1 0;fit 1 1 9;pair 0 0;" => 1 | trade() => 0
            """);
    }

    private static void termsAsked() throws Exception {
        String all = """
            print() => 341 | told(10) => 1
            way() => 4 | wayAt(1) => 1 | wayFrom(1, 1) => 4 | phases(1) => 3 | phased(1) => 1 | most() => 3 | reached(0) => 0 | cover(0) => 7
            of(0, 0, 0) => 1 | of(1, 1, 1) => 2 | of(0, 1, 2) => 3 | fit(0, 0) => 3 | fitMany(3) => 3 | lack(7) => 0 | hall(0) => 0 | hall(1) => 0
            many() => 1 | cheap(0) => 12 | cheap(1) => 1 | cheapest(0) => 0 | narrow() => 5 | more(0) => 0 | fewest(0) => 1 | chosen(0) => 7
            rounds() => 2 | round(0, 1) => 1 | told(9) => 8 | partner(0, 0) => 1 | cost(0, 1) => 3 | fits(0, 0) => 3 | fault() => -1
            """;
        at("Terms 3", "Asked, nothing stays changed", """
            tell "workers 3;tasks 3;keep 0;fit 0 0 4;fit 0 1 3;fit 1 1 3;fit 2 2 5;pair 2 2;" => 1 | pair(0, 1) => 2
            feed(1, 2, 3, 4, 5) => 20
            """ + all + all + "told(11) => 20 | told(3) => 2 | told(7) => 2 | told(8) => 1 | told(4) => 0 | status(0) => 0 | status(1) => 0 | undo() => 0 | told(3) => 1");
    }

    // ---- Promises 1 to 5

    /** A net on which much can be asked: KEEP 0, one PAIR, one WORKER and one TASK AWAY. */
    private static final String NET = """
        tell "workers 4;tasks 3;keep 0;fit 0 0 5;fit 0 1 8;fit 1 1;fit 3 2 9;fit 2 1 1;away task 2;away worker 2;pair 0 1;" => 1
        """;

    private static void newObject() throws Exception {
        at("Promise 1", "One WORKER, one TASK, no FITS, KEEP 1", """
            told(0) => 1 | told(1) => 1 | told(2) => 0 | told(3) => 0 | told(4) => 1 | told(5) => 1 | told(6) => 1 | told(7) => 1
            told(8) => 1 | told(9) => 0 | told(10) => 0 | told(11) => 0 | fault() => -1 | cost(0, 0) => -1 | fits(0, 0) => 0 | fits(1, 0) => 0
            partner(0, 0) => -1 | partner(1, 0) => -1 | way() => 0 | most() => 0 | many() => 1 | print() => 0 | undo() => -1 | trade() => 0
            settle(12) => 0 | phases(0) => 0 | rounds() => 0 | status(0) => 0 | status(1) => 0 | weight(0, 1) => 1
            """);
    }

    private static void feed() throws Exception {
        at("Promise 2", "Twenty bytes come on the TAPE, of each number the highest first: how many there are", """
            feed(2003792491, 1701999392, 842757217, 1936421664, 842727424) => 20 | text(18) => 0 | told(0) => 2 | told(1) => 2
            feed(0, 0, 0, 0, 0) => 20 | feed(MIN, MAX, -1, 1, 0) => 40 | told(11) => 40
            text(40) => -9 | fault() => 0 | told(11) => 0 | feed(538976288, 538976288, 538976288, 538976288, 538976383) => 20 | text(20) => -9 | fault() => 19
            feed(538976288, 538976288, 538976288, 538976288, -1) => 20 | text(20) => -9 | fault() => 16
            """);
        at("Promise 2", "NONE, doing nothing, if there would be more than 300",
            "feed(2003792491, 1701999392, 842757217, 1936421664, 842727424) => 20\n"
            + from(2, 14, "feed(#, 0, 0, 0, 0) => ?").lines().map(row -> row.replace("?", "" + 20 * number(row.substring(5, row.indexOf(','))))).reduce("", (p, q) -> p + q + "\n")
            + """
            told(11) => 280 | feed(0, 0, 0, 0, 0) => 300 | told(11) => 300 | feed(1, 2, 3, 4, 5) => -1 | told(11) => 300 | feed(0, 0, 0, 0, 0) => -1
            told(0) => 1 | told(10) => 0 | status(0) => 0 | status(1) => 0 | text(18) => 0 | told(0) => 2 | told(11) => 0
            feed(0, 0, 0, 0, 0) => 20 | told(11) => 20
            """);
    }

    private static void text() throws Exception {
        String two = "feed(2003792491, 1701999392, 842757217, 1936421664, 842727424) => 20\n";
        at("Promise 3", "The first n bytes of the TAPE (empty then) tell all anew", two + two.replace("=> 20", "=> 40") + """
            text(18) => 0 | told(0) => 2 | told(11) => 0 | text(1) => IAE | text(0) => -9 | fault() => 0 | told(0) => 2
            """ + two + "text(0) => -9 | fault() => 0 | told(11) => 0 | told(0) => 2\n" + two + """
            text(20) => -9 | fault() => 18 | told(11) => 0
            tell "workers 3;tasks 3;keep 0;fit 0 0 5;weight 0 9;away worker 2;pair 0 0;" => 1
            tell "workers 3;tasks 3;" => 0 | told(2) => 0 | told(3) => 0 | told(4) => 1 | told(5) => 7 | cost(0, 0) => -1 | weight(0, 9) => 1
            fits(0, 0) => 0 | fits(1, 0) => 0 | partner(0, 0) => -1 | partner(1, 0) => -1
            """);
        at("Promise 3", "(nothing can be taken back)", "add(0, 0, 0) => -1 | weight(0, 2) => 1 | told(10) => 2\n" + two + """
            text(18) => 0 | told(10) => 0 | undo() => -1 | told(0) => 2 | weight(0, 3) => 1 | undo() => 0 | undo() => -1 | told(0) => 2
            """);
        at("Promise 3", "how many PAIRS there are then",
            "tell \"workers 12;tasks 12;" + from(0, 11, "fit # #;").replace("\n", "") + "\" => 12\n"
            + """
            told(3) => 12
            tell "workers 1;tasks 1;" => 0
            tell "workers 2;tasks 2;fit 0 0;fit 1 0;fit 1 1;pair 1 0;" => 2 | partner(0, 1) => 1
            tell "workers 2;tasks 2;fit 0 0;fit 1 0;fit 1 1;pair 1 0;keep 0;" => 1 | told(3) => 1
            """);
        at("Promise 3", "or the FAULT less 10 (all but the TAPE stays)", NET + """
            weight(3, 7) => 1 | told(10) => 1
            tell "workers 2;tasks 2;^x" => -9 | print() => 4394 | told(11) => 0
            tell "workers ^13;" => -8 | print() => 4394 | told(0) => 4
            tell "workers 2;tasks 2;keep 1;^keep" => -7 | told(4) => 0 | told(1) => 3
            tell "workers 2;tasks 2;fit 0 0;pair ^0 1;" => -6 | told(3) => 1 | told(2) => 5 | told(9) => 8
            tell "workers 2;tasks 2;weight 0 5;away worker 0;away worker ^0;" => -5 | told(5) => 11 | told(6) => 3
            weight(3, 1) => 7 | told(10) => 2 | undo() => 1 | undo() => 0 | weight(3, 5) => 1 | print() => 4394
            """);
        at("Promise 3", "IllegalArgumentException: n is not 0 to the TAPE's bytes (it stays)", """
            text(1) => IAE | text(-1) => IAE | text(MIN) => IAE | text(MAX) => IAE | status(1) => 4 | told(11) => 0
            """ + two + """
            text(21) => IAE | text(-1) => IAE | told(11) => 20 | text(300) => IAE | told(11) => 20 | text(18) => 0 | told(0) => 2
            """ + two + "text(20) => -9 | text(20) => IAE | status(1) => 8");
    }

    private static void fault() throws Exception {
        at("Promise 4", "The place of the FAULT of the latest text(); NONE without", """
            fault() => -1
            tell "workers 2;tasks 2;^x" => -9 | fault() => 18 | add(0, 0, 0) => -1 | undo() => 0 | fault() => 18
            tell "^" => -9 | fault() => 0
            tell "workers 2;tasks 2;" => 0 | fault() => -1
            """ + "tell \"workers 2;tasks 2;" + " ".repeat(281) + "^x\" => -9\n fault() => 299\n"
            + "tell \"workers 2;tasks 2;" + " ".repeat(279) + "fit^\" => -9\n fault() => 300\n");
    }

    private static void told() throws Exception {
        at("Promise 5", "0 N, 1 M, 2 FITS, 3 PAIRS, 4 KEEP", """
            told(0) => 1 | told(1) => 1 | told(2) => 0 | told(3) => 0 | told(4) => 1
            """ + full(12, 11) + "told(0) => 12 | told(1) => 11 | told(2) => 132 | told(3) => 0 | told(4) => 0 | keep(1) => 0 | told(3) => 11 | told(4) => 1\n"
            + NET + "told(0) => 4 | told(1) => 3 | told(2) => 5 | told(3) => 1 | told(4) => 0");
        at("Promise 5", "5 WORKERS that are THERE (bits), 6 TASKS (bits), 7 FREE WORKERS (bits), 8 FREE TASKS (bits)", """
            told(5) => 1 | told(6) => 1 | told(7) => 1 | told(8) => 1
            tell "workers 12;tasks 12;" => 0 | told(5) => 4095 | told(6) => 4095 | told(7) => 4095 | told(8) => 4095
            is(0, 11, 0) => -1 | is(1, 0, 0) => -1 | told(5) => 2047 | told(6) => 4094 | told(7) => 2047 | told(8) => 4094
            add(0, 11, 0) => -1 | told(5) => 2047 | told(7) => 2046 | told(8) => 2046
            """ + NET + "told(5) => 11 | told(6) => 3 | told(7) => 10 | told(8) => 1");
        at("Promise 5", "9 COST of the PAIRS", "told(9) => 0\n tell \"workers 12;tasks 12;\" => 0\n" + from(0, 11, "add(#, #, 99) => -1")
            + "told(9) => 1188 | part(11) => 11 | told(9) => 1188 | is(0, 11, 0) => 11 | told(9) => 1089\n" + NET + "told(9) => 8 | part(0) => 1 | told(9) => 0");
        at("Promise 5", "10 how many acts can be taken back", "told(10) => 0\n" + from(2, 16, "weight(0, #) => @\n told(10) => @")
            + "weight(0, 0) => 16 | told(10) => 15 | undo() => 14 | told(10) => 14");
        at("Promise 5", "11 bytes of the TAPE", """
            told(11) => 0 | feed(0, 0, 0, 0, 0) => 20 | told(11) => 20 | feed(0, 0, 0, 0, 0) => 40 | text(41) => IAE | told(11) => 40
            add(0, 0, 0) => -1 | told(11) => 40 | text(1) => -9 | told(11) => 0
            """);
        at("Promise 5", "IllegalArgumentException: another argument (so below)", beyond("told(#)", 0, 11) + beyond("wayFrom(0, #)", 0, 1) + beyond("phases(#)", 0, 3)
            + beyond("of(0, 0, #)", 0, 2) + beyond("fitMany(#)", 1, 3) + beyond("hall(#)", 0, 1) + beyond("cheap(#)", 0, 1) + beyond("more(#)", 0, 1)
            + beyond("fewest(#)", 0, 1) + beyond("chosen(#)", 0, 1) + beyond("add(0, 0, #)", 0, 99) + beyond("is(0, 0, #)", 0, 1)
            + beyond("weight(0, #)", 0, 99) + beyond("keep(#)", 0, 1) + beyond("settle(#)", 1, 12) + beyond("lack(#)", 0, 1) + beyond("text(#)", 0, 0)
            + "status(1) => 68 | status(0) => 0 | told(10) => 0 | told(2) => 0 | print() => 0");
    }

    // ---- Promises 6 to 13

    private static void looks() throws Exception {
        at("Promise 6", "With whom a WORKER (side 0), a TASK (1) is paired", """
            add(0, 0, 0) => -1 | partner(0, 0) => 0 | partner(1, 0) => 0
            tell "workers 12;tasks 12;fit 11 0;fit 0 11;fit 3 7;" => 3 | partner(0, 11) => 0 | partner(1, 0) => 11 | partner(0, 0) => 11
            partner(1, 11) => 0 | partner(0, 3) => 7 | partner(1, 7) => 3
            """);
        at("Promise 6", "NONE: with none", NET + """
            partner(0, 0) => 1 | partner(1, 1) => 0 | partner(0, 1) => -1 | partner(0, 2) => -1 | partner(1, 0) => -1 | partner(1, 2) => -1
            part(0) => 1 | partner(0, 0) => -1 | partner(1, 1) => -1
            tell "workers 12;tasks 12;fit 11 11;" => 1 | partner(0, 11) => 11 | partner(1, 11) => 11 | partner(0, 10) => -1
            """);
        String wrongPlaces = nowhere("partner(0, #)", 3) + nowhere("partner(1, #)", 2) + nowhere("partner(#, 0)", 1) + nowhere("cost(#, 0)", 3)
            + nowhere("cost(0, #)", 2) + nowhere("fits(0, #)", 3) + nowhere("fits(1, #)", 2) + nowhere("fits(#, 0)", 1) + nowhere("wayAt(#)", 1)
            + nowhere("wayFrom(#, 0)", 3) + nowhere("phased(#)", 3) + nowhere("reached(#)", 1) + nowhere("cover(#)", 1) + nowhere("of(0, #, 0)", 3)
            + nowhere("of(1, #, 0)", 2) + nowhere("of(#, 0, 0)", 1) + nowhere("fit(#, 0)", 3) + nowhere("fit(0, #)", 2) + nowhere("cheapest(#)", 3)
            + nowhere("round(#, 0)", 3) + nowhere("round(0, #)", 2) + nowhere("add(#, 0, 0)", 3) + nowhere("add(0, #, 0)", 2) + nowhere("drop(#, 0)", 3)
            + nowhere("drop(0, #)", 2) + nowhere("is(0, #, 0)", 3) + nowhere("is(1, #, 0)", 2) + nowhere("is(#, 0, 0)", 1) + nowhere("pair(#, 0)", 3)
            + nowhere("pair(0, #)", 2) + nowhere("part(#)", 3) + nowhere("weight(#, 0)", 3);
        at("Promise 6", "NoSuchElementException: no such side, WORKER, TASK, place (so below", NET + "way() => 4 | settle(1) => 1 | part(1) => 1\n"
            + "way() => 2 | wayAt(1) => 1\n" + wrongPlaces + "status(0) => 128 | status(1) => 0 | told(10) => 2 | told(2) => 5 | told(3) => 1");
        at("Promise 6", "no such side, WORKER, TASK, place", NET + """
            partner(0, 3) => -1 | partner(1, 2) => -1 | cost(3, 2) => 9 | fits(0, 3) => 4 | fits(1, 2) => 8 | wayFrom(3, 0) => 0 | phased(3) => -1 | of(0, 3, 0) => 0
            of(1, 2, 0) => 0 | fit(3, 2) => 1 | cheapest(3) => -1 | round(3, 2) => -1 | drop(3, 2) => 9 | add(3, 2, 4) => -1 | pair(3, 2) => IAE | part(3) => IAE
            is(0, 3, 0) => -1 | is(1, 2, 1) => -1 | weight(3, 4) => 1 | status(0) => 0
            tell "workers 2;tasks 5;keep 0;fit 1 4 6;pair 1 4;" => 1 | partner(0, 2) => NSEE | partner(1, 2) => -1 | cost(2, 1) => NSEE | cost(1, 4) => 6 | fits(0, 2) => NSEE
            fits(1, 4) => 2 | wayFrom(2, 0) => NSEE | phased(2) => NSEE | phased(1) => 4 | of(0, 2, 0) => NSEE | of(1, 4, 0) => 1 | fit(2, 1) => NSEE | fit(1, 4) => 3
            cheapest(2) => NSEE | cheapest(1) => 4 | round(2, 1) => NSEE | round(1, 4) => 0 | drop(2, 1) => NSEE | add(2, 1, 0) => NSEE | add(1, 3, 0) => -1 | drop(1, 3) => 0
            pair(2, 1) => NSEE | part(2) => NSEE | part(1) => 4 | pair(1, 4) => 1 | is(0, 2, 0) => NSEE | is(1, 4, 0) => 1 | weight(2, 0) => NSEE | weight(1, 0) => 1
            """);
        at("Promise 6", ", ahead of others)", NET + nowhere("wayFrom(#, 2)", 3) + nowhere("of(#, 0, 3)", 1) + nowhere("of(1, #, -1)", 2)
            + nowhere("add(#, 0, 100)", 3) + nowhere("add(0, #, -1)", 2) + nowhere("drop(#, 1)", 3) + nowhere("drop(1, #)", 2) + nowhere("is(0, #, 2)", 3)
            + nowhere("is(1, #, -1)", 2) + nowhere("is(#, 9, 9)", 1) + nowhere("pair(1, #)", 2) + nowhere("pair(#, 1)", 3) + nowhere("weight(#, 100)", 3)
            + "status(0) => 52 | status(1) => 0");
        at("Promise 7", "The COST of a FIT; NONE: it is none", NET + """
            cost(0, 0) => 5 | cost(1, 1) => 0 | cost(3, 2) => 9 | cost(2, 1) => 1 | cost(3, 0) => -1 | cost(0, 2) => -1
            drop(0, 0) => 5 | cost(0, 0) => -1 | add(0, 0, 0) => -1 | cost(0, 0) => 0
            """ + full(12, 12) + "cost(11, 11) => 0 | cost(0, 11) => 0 | cost(11, 0) => 0");
        at("Promise 8", "FITS of a WORKER (side 0), a TASK (1) (bits; those that are AWAY, too)", NET + """
            fits(0, 0) => 3 | fits(0, 1) => 2 | fits(0, 2) => 2 | fits(0, 3) => 4 | fits(1, 0) => 1 | fits(1, 1) => 7 | fits(1, 2) => 8
            add(3, 0, 0) => -1 | fits(0, 3) => 5 | drop(2, 1) => 1 | fits(0, 2) => 0 | fits(1, 1) => 3
            """ + full(12, 12) + "fits(0, 11) => 4095 | fits(1, 11) => 4095 | drop(11, 11) => 0 | fits(0, 11) => 2047 | fits(1, 11) => 2047");
    }

    private static void ways() throws Exception {
        at("Promise 9", "how many it has (0: there is none)", """
            way() => 0 | keep(0) => 1 | add(0, 0, 0) => -1 | way() => 2 | is(1, 0, 0) => -1 | way() => 0
            tell "workers 3;tasks 3;keep 0;fit 0 0;fit 1 0;fit 1 1;fit 2 1;fit 2 2;pair 1 0;pair 2 1;" => 2 | way() => 6 | settle(1) => 1 | way() => 0
            tell "workers 2;tasks 2;fit 0 0;fit 0 1;fit 1 1;" => 2 | way() => 0
            """ + full(12, 12) + "way() => 2 | settle(11) => 11 | way() => 2 | settle(12) => 1 | way() => 0");
        at("Promise 10", "The k-th of THE WAY (0 its WORKER, 1 its TASK ..)", """
            wayAt(0) => NSEE | wayAt(-1) => NSEE
            tell "workers 3;tasks 3;keep 0;fit 0 0;fit 2 0;fit 2 1;pair 2 0;" => 1 | way() => 4
            wayAt(0) => 0 | wayAt(1) => 0 | wayAt(2) => 2 | wayAt(3) => 1 | wayAt(4) => NSEE | wayAt(-1) => NSEE | wayAt(MAX) => NSEE | wayAt(MIN) => NSEE
            settle(1) => 1 | wayAt(0) => NSEE | status(0) => 7
            """);
        at("Promise 11", "Whether there is a WAY from a WORKER (what 0: 1, 0), how many the shortest has (1; 0)", """
            wayFrom(0, 0) => 0 | wayFrom(0, 1) => 0
            tell "workers 4;tasks 3;keep 0;fit 0 0;fit 1 0;fit 1 1;fit 2 0;fit 3 1;pair 1 0;away worker 3;" => 1
            wayFrom(0, 0) => 1 | wayFrom(0, 1) => 4 | wayFrom(1, 0) => 0 | wayFrom(1, 1) => 0 | wayFrom(2, 0) => 1 | wayFrom(2, 1) => 4
            wayFrom(3, 0) => 0 | wayFrom(3, 1) => 0 | is(0, 3, 1) => -1 | wayFrom(3, 0) => 1 | wayFrom(3, 1) => 2
            wayFrom(4, 0) => NSEE | wayFrom(4, 2) => NSEE | wayFrom(0, 2) => IAE | wayFrom(1, -1) => IAE
            settle(12) => 1 | wayFrom(2, 0) => 0 | wayFrom(2, 1) => 0
            """);
    }

    private static void phases() throws Exception {
        at("Promise 12", "PHASES: 0 how many, 1 WAYS that were DONE, 2 the WAYS of the first, 3 how many the last WAY had (0)", """
            phases(0) => 0 | phases(1) => 0 | phases(2) => 0 | phases(3) => 0 | phases(4) => IAE | phases(-1) => IAE
            add(0, 0, 0) => -1 | phases(0) => 1 | phases(1) => 1 | phases(2) => 1 | phases(3) => 2
            is(0, 0, 0) => 0 | phases(0) => 0 | phases(1) => 0 | phases(2) => 0 | phases(3) => 0
            tell "workers 3;tasks 3;keep 0;fit 0 0;fit 0 1;fit 1 1;fit 1 2;fit 2 0;" => 0
            phases(0) => 2 | phases(1) => 3 | phases(2) => 2 | phases(3) => 6 | told(3) => 0
            """ + full(12, 12) + "phases(0) => 1 | phases(1) => 12 | phases(2) => 12 | phases(3) => 2");
        at("Promise 13", "With whom a WORKER is paired by PHASES; NONE: with none", """
            phased(0) => -1 | add(0, 0, 0) => -1 | phased(0) => 0 | is(1, 0, 0) => 0 | phased(0) => -1 | is(1, 0, 1) => -1 | is(0, 0, 0) => 0 | phased(0) => -1
            tell "workers 2;tasks 2;keep 0;fit 0 1;fit 1 0;fit 1 1;pair 1 1;" => 1 | phased(0) => 1 | phased(1) => 0
            tell "workers 3;tasks 2;fit 0 0;fit 0 1;fit 1 0;fit 2 0;" => 2 | phased(0) => 1 | phased(1) => 0 | phased(2) => -1 | phased(3) => NSEE | phased(-1) => NSEE
            """);
    }

    // ---- Promises 14 to 21

    private static void most() throws Exception {
        at("Promise 14", "NU", "most() => 0 | add(0, 0, 0) => -1 | most() => 1 | is(0, 0, 0) => 0 | most() => 0\n" + full(12, 12) + "most() => 12 | is(0, 3, 0) => -1 | most() => 11");
        at("Promise 15", "REACHED WORKERS (side 0), TASKS (1), as bits", """
            reached(0) => 1 | reached(1) => 0 | reached(2) => NSEE | reached(-1) => NSEE
            tell "workers 12;tasks 12;" => 0 | reached(0) => 4095 | reached(1) => 0 | is(0, 11, 0) => -1 | reached(0) => 2047
            tell "workers 12;tasks 12;fit 11 11;fit 10 11;" => 1 | reached(0) => 4095 | reached(1) => 2048
            tell "workers 2;tasks 2;fit 0 0;fit 1 1;" => 2 | reached(0) => 0 | reached(1) => 0
            tell "workers 3;tasks 2;fit 0 0;fit 0 1;fit 1 0;fit 2 1;" => 2 | reached(0) => 7 | reached(1) => 3
            tell "workers 12;tasks 1;keep 0;fit 0 0;fit 11 0;pair 11 0;" => 1 | reached(0) => 4095 | reached(1) => 1
            """);
        at("Promise 16", "The COVER: WORKERS (side 0), TASKS (1), as bits", """
            cover(0) => 0 | cover(1) => 0 | cover(2) => NSEE | cover(-1) => NSEE | add(0, 0, 0) => -1 | cover(0) => 1 | cover(1) => 0
            tell "workers 12;tasks 12;fit 11 11;fit 10 11;" => 1 | cover(0) => 0 | cover(1) => 2048
            tell "workers 12;tasks 12;fit 11 11;fit 11 10;" => 1 | cover(0) => 2048 | cover(1) => 0
            is(0, 11, 0) => 10 | cover(0) => 0 | cover(1) => 0
            """);
    }

    private static void of() throws Exception {
        at("Promise 17", "0 1 NEEDED, 0 not, 1 NU without it (as if it were AWAY)", """
            of(0, 0, 0) => 0 | of(0, 0, 1) => 0 | of(1, 0, 0) => 0 | of(1, 0, 1) => 0
            add(0, 0, 0) => -1 | of(0, 0, 0) => 1 | of(0, 0, 1) => 0 | of(1, 0, 0) => 1 | of(1, 0, 1) => 0
            is(0, 0, 0) => 0 | of(0, 0, 0) => 0 | of(0, 0, 1) => 0 | of(1, 0, 0) => 0 | of(1, 0, 1) => 0 | told(5) => 0 | told(6) => 1
            tell "workers 3;tasks 2;fit 0 0;fit 1 0;fit 1 1;fit 2 1;away worker 2;" => 2
            of(0, 0, 0) => 1 | of(0, 1, 0) => 1 | of(0, 2, 0) => 0 | of(0, 0, 1) => 1 | of(0, 2, 1) => 2 | of(1, 0, 1) => 1
            is(0, 2, 1) => -1 | of(0, 0, 0) => 0 | of(0, 1, 0) => 0 | of(0, 2, 0) => 0 | of(0, 0, 1) => 2 | of(1, 0, 0) => 1 | of(1, 1, 1) => 1 | told(3) => 2
            """ + full(12, 12) + "of(0, 11, 0) => 1 | of(1, 11, 0) => 1 | of(0, 11, 1) => 11 | of(1, 0, 1) => 11\n"
            + full(12, 11) + "of(0, 11, 0) => 0 | of(1, 10, 0) => 1 | of(0, 11, 1) => 11 | of(1, 0, 1) => 10");
        at("Promise 17", "Of a WORKER (side 0), a TASK (1)", """
            tell "workers 2;tasks 3;fit 0 0;fit 1 0;fit 1 1;fit 1 2;" => 2 | of(0, 0, 0) => 1 | of(1, 0, 0) => 1 | of(0, 1, 0) => 1 | of(1, 1, 0) => 0 | of(1, 2, 0) => 0
            of(0, 2, 0) => NSEE | of(1, 3, 0) => NSEE | of(2, 0, 0) => NSEE | of(-1, 0, 0) => NSEE
            """);
        at("Promise 17", "2 in which part it is", """
            of(0, 0, 2) => 1 | of(1, 0, 2) => 2 | add(0, 0, 0) => -1 | of(0, 0, 2) => 3 | of(1, 0, 2) => 3 | of(0, 0, 3) => IAE | of(0, 0, -1) => IAE
            tell "workers 3;tasks 3;keep 0;fit 0 0;fit 1 0;fit 2 1;fit 2 2;" => 0 | of(0, 0, 2) => 1 | of(0, 1, 2) => 1 | of(1, 0, 2) => 1
            of(0, 2, 2) => 2 | of(1, 1, 2) => 2 | of(1, 2, 2) => 2
            """);
        at("Promise 17", "(0 AWAY, 1 it is REACHED from FREE WORKERS, 2 likewise from FREE TASKS of M (the sides changed), 3 neither)", """
            of(0, 0, 2) => 1 | of(1, 0, 2) => 2 | add(0, 0, 0) => -1 | of(0, 0, 2) => 3 | of(1, 0, 2) => 3
            is(0, 0, 0) => 0 | of(0, 0, 2) => 0 | of(1, 0, 2) => 2 | is(1, 0, 0) => -1 | of(1, 0, 2) => 0 | is(0, 0, 1) => -1 | of(0, 0, 2) => 1 | of(1, 0, 2) => 0
            tell "workers 5;tasks 5;keep 0;fit 0 0;fit 1 0;fit 2 1;fit 2 2;fit 3 3;fit 4 3;fit 3 4;away worker 4;away task 4;" => 0
            of(0, 0, 2) => 1 | of(0, 1, 2) => 1 | of(1, 0, 2) => 1 | of(0, 2, 2) => 2 | of(1, 1, 2) => 2 | of(1, 2, 2) => 2
            of(0, 3, 2) => 3 | of(1, 3, 2) => 3 | of(0, 4, 2) => 0 | of(1, 4, 2) => 0
            tell "workers 1;tasks 2;fit 0 0;fit 0 1;" => 1 | of(0, 0, 2) => 2 | is(1, 1, 0) => -1 | of(0, 0, 2) => 3 | of(1, 0, 2) => 3 | of(1, 1, 2) => 0
            """ + "tell \"workers 12;tasks 12;away worker 11;\" => 0\n" + from(0, 10, "add(#, #, 0) => -1") + from(1, 11, "add(@, #, 0) => -1")
            + from(0, 10, "of(0, #, 2) => 2") + from(0, 11, "of(1, #, 2) => 2") + "of(0, 11, 2) => 0");
    }

    private static void fit() throws Exception {
        at("Promise 18", "A WORKER and a TASK: 0 no FIT, 1 NEVER, 2 SOMETIMES, 3 ALWAYS", """
            fit(0, 0) => 0 | add(0, 0, 0) => -1 | fit(0, 0) => 3 | is(0, 0, 0) => 0 | fit(0, 0) => 1 | drop(0, 0) => 0 | fit(0, 0) => 0
            tell "workers 4;tasks 4;keep 0;fit 0 0;fit 0 1;fit 1 1;fit 2 2;fit 3 2;fit 3 3;away task 3;" => 0
            fit(0, 0) => 3 | fit(0, 1) => 1 | fit(1, 1) => 3 | fit(2, 2) => 2 | fit(3, 2) => 2 | fit(3, 3) => 1 | fit(0, 2) => 0 | fit(0, 3) => 0
            fit(4, 0) => NSEE | fit(0, 4) => NSEE
            tell "workers 12;tasks 3;fit 0 0;fit 0 1;fit 1 1;fit 1 2;fit 11 2;fit 11 0;" => 3
            fit(0, 0) => 2 | fit(0, 1) => 2 | fit(1, 1) => 2 | fit(1, 2) => 2 | fit(11, 2) => 2 | fit(11, 0) => 2
            """ + full(12, 12) + "fit(0, 0) => 2 | fit(11, 11) => 2 | is(0, 11, 0) => -1 | fit(11, 11) => 1 | fit(0, 0) => 2");
        at("Promise 19", "How many FITS are NEVER (what 1), SOMETIMES (2), ALWAYS (3)", """
            fitMany(1) => 0 | fitMany(2) => 0 | fitMany(3) => 0 | fitMany(0) => IAE | fitMany(4) => IAE
            add(0, 0, 0) => -1 | fitMany(1) => 0 | fitMany(2) => 0 | fitMany(3) => 1 | is(1, 0, 0) => 0 | fitMany(1) => 1 | fitMany(3) => 0
            tell "workers 4;tasks 4;keep 0;fit 0 0;fit 0 1;fit 1 1;fit 2 2;fit 3 2;fit 3 3;away task 3;" => 0
            fitMany(1) => 2 | fitMany(2) => 2 | fitMany(3) => 2
            """ + full(12, 12) + "fitMany(1) => 0 | fitMany(2) => 144 | fitMany(3) => 0 | is(0, 0, 0) => -1 | fitMany(1) => 12 | fitMany(2) => 132");
    }

    private static void lackAndHall() throws Exception {
        at("Promise 20", "LACK of a set of WORKERS (bits)", """
            lack(0) => 0 | lack(1) => 1 | add(0, 0, 0) => -1 | lack(1) => 0 | is(1, 0, 0) => 0 | lack(1) => 1 | is(0, 0, 0) => -1 | lack(1) => 0
            tell "workers 12;tasks 1;" => 0 | lack(4095) => 12 | lack(0) => 0 | lack(2048) => 1 | add(11, 0, 0) => -1 | lack(4095) => 11 | lack(2048) => 0
            """ + full(1, 12) + "lack(1) => -11\n" + full(12, 12) + "lack(4095) => 0 | lack(1) => -11");
        at("Promise 20", "IllegalArgumentException: below 0, or others than there are", """
            lack(2) => IAE | lack(3) => IAE | lack(-1) => IAE | lack(MIN) => IAE | lack(MAX) => IAE | lack(1) => 1
            tell "workers 3;tasks 1;away worker 2;" => 0 | lack(7) => 2 | lack(4) => 0 | lack(8) => IAE | lack(15) => IAE
            tell "workers 12;tasks 1;" => 0 | lack(4095) => 12 | lack(4096) => IAE | lack(8191) => IAE | status(1) => 9
            """);
        at("Promise 21", "The greatest LACK of any set: 0 how much (0: of none), 1 HALL, as bits", """
            hall(0) => 1 | hall(1) => 1 | hall(2) => IAE | hall(-1) => IAE | add(0, 0, 0) => -1 | hall(0) => 0 | hall(1) => 0
            is(0, 0, 0) => 0 | hall(0) => 0 | hall(1) => 0
            tell "workers 12;tasks 12;" => 0 | hall(0) => 12 | hall(1) => 4095
            tell "workers 3;tasks 12;fit 0 0;fit 0 1;fit 0 2;fit 1 2;fit 2 2;" => 2 | hall(0) => 1 | hall(1) => 6
            """ + full(12, 12) + "hall(0) => 0 | hall(1) => 0\n" + full(12, 1) + "hall(0) => 11 | hall(1) => 4095");
    }

    // ---- Promises 22 to 30

    private static void manyAndCheap() throws Exception {
        at("Promise 22", "How many MOST PAIRINGS there are", "many() => 1 | add(0, 0, 0) => -1 | many() => 1 | is(0, 0, 0) => 0 | many() => 1\n"
            + full(12, 12) + "many() => 479001600 | drop(0, 0) => 0 | many() => 439084800\n" + full(12, 6) + "many() => 665280\n" + full(6, 12) + "many() => 665280");
        at("Promise 22", "How many MOST PAIRINGS there are", full(12, 1) + "many() => 12\n" + full(1, 12) + "many() => 12\n" + full(5, 5)
            + "many() => 120 | is(0, 0, 0) => -1 | many() => 120 | is(1, 0, 0) => -1 | many() => 24 | undo() => 14 | many() => 120 | weight(0, 9) => 1 | many() => 120");
        at("Promise 23", "CHEAP: 0 its COST, 1 how many MOST PAIRINGS have that COST (held at 1,000,000,000)", """
            cheap(0) => 0 | cheap(1) => 1 | cheap(2) => IAE | cheap(-1) => IAE | add(0, 0, 99) => -1 | cheap(0) => 99 | cheap(1) => 1 | is(0, 0, 0) => 0 | cheap(0) => 0 | cheap(1) => 1
            tell "workers 2;tasks 2;fit 0 0 5;fit 0 1 4;fit 1 0 6;fit 1 1 5;" => 2 | cheap(0) => 10 | cheap(1) => 2 | add(1, 1, 4) => 5 | cheap(0) => 9 | cheap(1) => 1
            tell "workers 2;tasks 2;fit 0 0;fit 0 1;fit 1 0;fit 1 1;" => 2 | cheap(0) => 0 | cheap(1) => 2 | cheapest(0) => 0
            tell "workers 2;tasks 2;fit 0 0 50;fit 1 0 9;fit 1 1 60;" => 2 | cheap(0) => 110 | cheap(1) => 1 | cheapest(0) => 0 | cheapest(1) => 1
            tell "workers 2;tasks 2;fit 0 0;fit 0 1;fit 1 0;fit 1 1;" => 2 | cheap(0) => 0
            tell "workers 2;tasks 2;fit 0 1 50;fit 1 1 9;fit 1 0 60;" => 2 | cheap(0) => 110 | cheap(1) => 1 | cheapest(0) => 1 | cheapest(1) => 0
            tell "workers 1;tasks 3;fit 0 0 4;fit 0 1 4;fit 0 2 5;" => 1 | cheap(0) => 4 | cheap(1) => 2 | many() => 3
            tell "workers 2;tasks 3;fit 0 0 0;fit 0 1 1;fit 1 0 1;fit 1 2 2;" => 2 | cheap(0) => 2 | cheap(1) => 2 | many() => 3 | cheapest(0) => 0 | cheapest(1) => 2
            """ + full(12, 12) + "cheap(0) => 0 | cheap(1) => 479001600\n");
        at("Promise 23", "0 its COST", "tell \"workers 12;tasks 12;\" => 0\n" + each(12, 12, "add(#, @, 99) => -1") + "cheap(0) => 1188 | cheap(1) => 479001600 | cheapest(11) => 11");
        at("Promise 24", "With whom a WORKER is paired by CHEAP; NONE: with none", """
            cheapest(0) => -1 | cheapest(1) => NSEE | cheapest(-1) => NSEE | add(0, 0, 5) => -1 | cheapest(0) => 0 | is(1, 0, 0) => 0 | cheapest(0) => -1
            is(1, 0, 1) => -1 | is(0, 0, 0) => 0 | cheapest(0) => -1
            tell "workers 3;tasks 2;fit 0 0 2;fit 1 0 2;fit 2 1;" => 2 | cheapest(0) => 0 | cheapest(1) => -1 | cheapest(2) => 1
            """ + full(12, 12) + from(0, 11, "cheapest(#) => #") + full(12, 6) + from(0, 5, "cheapest(#) => #") + from(6, 11, "cheapest(#) => -1"));
    }

    private static void narrowMoreFewest() throws Exception {
        at("Promise 25", "NARROW", "narrow() => -1 | add(0, 0, 0) => -1 | narrow() => 0 | add(0, 0, 99) => 0 | narrow() => 99 | is(1, 0, 0) => 0 | narrow() => -1\n"
            + full(12, 12) + "narrow() => 0 | add(0, 0, 99) => 0 | narrow() => 0\n tell \"workers 12;tasks 12;\" => 0\n" + from(0, 11, "add(#, #, 8#) => -1").replace("810", "90").replace("811", "99")
            + "narrow() => 99 | is(0, 11, 0) => 11 | narrow() => 90 | is(0, 10, 0) => 10 | narrow() => 89\n"
            + "tell \"workers 2;tasks 2;fit 0 0 50;fit 1 1 3;\" => 2 | narrow() => 50 | is(0, 0, 0) => 0 | narrow() => 3");
        at("Promise 26", "Of WORKERS and TASKS that are THERE and no FIT: 0 how many there are with each of which, alone, as a FIT NU would be more", """
            more(0) => 1 | is(0, 0, 0) => -1 | more(0) => 0 | is(0, 0, 1) => -1 | is(1, 0, 0) => -1 | more(0) => 0 | is(1, 0, 1) => -1 | more(0) => 1
            add(0, 0, 0) => -1 | more(0) => 0 | more(2) => IAE | more(-1) => IAE
            tell "workers 3;tasks 3;keep 0;fit 0 0;fit 1 0;fit 2 1;fit 2 2;" => 0 | more(0) => 4 | more(1) => 1 | told(3) => 0 | told(2) => 4
            tell "workers 12;tasks 12;" => 0 | more(0) => 144
            """ + full(12, 11) + "more(0) => 0 | more(1) => -1\n" + full(11, 12) + "more(0) => 0");
        at("Promise 26", "1 the first of them (100 times the WORKER, and the TASK; NONE)", """
            more(1) => 0 | is(0, 0, 0) => -1 | more(1) => -1 | is(0, 0, 1) => -1 | add(0, 0, 0) => -1 | more(1) => -1
            tell "workers 12;tasks 12;" => 0 | more(1) => 0
            """ + from(0, 10, "add(#, #, 0) => -1") + "more(0) => 1 | more(1) => 1111 | is(0, 11, 0) => -1 | more(1) => -1");
        at("Promise 27", "The fewest FITS without which (all together) NU would be less", """
            add(0, 0, 0) => -1 | fewest(0) => 1 | fewest(1) => 0
            tell "workers 2;tasks 2;fit 0 0;fit 0 1;fit 1 0;fit 1 1;" => 2 | fewest(0) => 2 | fewest(1) => 0 | drop(0, 0) => 0 | fewest(0) => 1 | fewest(1) => 1
            tell "workers 2;tasks 3;away task 0;fit 0 0;fit 0 1;fit 0 2;fit 1 0;fit 1 1;fit 1 2;" => 2 | fewest(0) => 2 | fewest(1) => 1
            """);
        at("Promise 27", "0 how many (1 and 2 are tried; NONE: by neither, or NU is 0)", """
            fewest(0) => -1 | fewest(2) => IAE | fewest(-1) => IAE | add(0, 0, 0) => -1 | fewest(0) => 1 | is(0, 0, 0) => 0 | fewest(0) => -1
            tell "workers 1;tasks 3;fit 0 0;fit 0 1;" => 1 | fewest(0) => 2 | add(0, 2, 0) => -1 | fewest(0) => -1 | is(1, 1, 0) => -1 | fewest(0) => 2
            is(1, 0, 0) => 0 | fewest(0) => 1 | told(2) => 3
            """ + full(3, 3) + "fewest(0) => -1 | drop(0, 0) => 0 | fewest(0) => 2 | drop(0, 1) => 0 | fewest(0) => 1\n" + full(12, 12) + "fewest(0) => -1");
        at("Promise 27", "1 the first FIT of the first such set (FITS in order of WORKERS, then TASKS; sets by their first FIT, then by their second one): 100 times the WORKER, and the TASK; NONE", """
            fewest(1) => -1 | add(0, 0, 0) => -1 | fewest(1) => 0 | is(0, 0, 0) => 0 | fewest(1) => -1
            tell "workers 12;tasks 12;fit 11 11;" => 1 | fewest(1) => 1111 | add(11, 10, 0) => -1 | fewest(0) => 2 | fewest(1) => 1110 | add(11, 9, 0) => -1 | fewest(1) => -1
            tell "workers 3;tasks 3;fit 0 0;fit 0 1;fit 1 0;fit 1 1;fit 2 2;" => 3 | fewest(1) => 202 | is(1, 2, 0) => 2 | fewest(1) => 0 | fewest(0) => 2
            tell "workers 2;tasks 3;fit 0 0;fit 0 1;fit 0 2;fit 1 1;fit 1 2;" => 2 | fewest(0) => 2 | fewest(1) => 101
            """ + full(3, 3) + "fewest(1) => -1 | drop(2, 2) => 0 | fewest(1) => 2");
    }

    private static void chosenAndRounds() throws Exception {
        at("Promise 28", "WORKERS that are CHOSEN (what 0, as bits), WORTH (1)", """
            chosen(0) => 0 | chosen(1) => 0 | chosen(2) => IAE | chosen(-1) => IAE | add(0, 0, 0) => -1 | chosen(0) => 1 | chosen(1) => 1
            weight(0, 0) => 1 | chosen(0) => 1 | chosen(1) => 0 | is(0, 0, 0) => 0 | chosen(0) => 0 | chosen(1) => 0
            """ + full(12, 12) + from(0, 11, "weight(#, 99) => 1") + "chosen(0) => 4095 | chosen(1) => 1188 | told(3) => 0\n"
            + full(12, 1) + "weight(11, 2) => 1 | chosen(0) => 2048 | chosen(1) => 2 | is(1, 0, 0) => -1 | chosen(0) => 0 | chosen(1) => 0");
        at("Promise 29", "How many ROUNDS there are (0 without FITS of two that are THERE)", """
            rounds() => 0 | add(0, 0, 0) => -1 | rounds() => 1 | is(0, 0, 0) => 0 | rounds() => 0 | is(0, 0, 1) => -1 | is(1, 0, 0) => 0 | rounds() => 0
            is(0, 0, 0) => -1 | rounds() => 0
            tell "workers 3;tasks 3;fit 0 0;fit 0 1;fit 1 1;fit 2 1;" => 2 | rounds() => 3 | is(0, 1, 0) => 1 | rounds() => 2
            """ + full(12, 12) + "rounds() => 12");
        at("Promise 30", "The ROUND of a FIT; NONE: it has none", """
            round(0, 0) => -1 | add(0, 0, 0) => -1 | round(0, 0) => 0 | is(1, 0, 0) => 0 | round(0, 0) => -1 | round(1, 0) => NSEE | round(0, 1) => NSEE
            tell "workers 2;tasks 2;fit 0 0;fit 0 1;fit 1 1;" => 2 | round(1, 0) => -1 | round(0, 1) => 1 | is(1, 0, 0) => 0 | round(0, 0) => -1 | round(0, 1) => 1 | round(1, 1) => 0
            """ + full(1, 12) + from(0, 11, "round(0, #) => #"));
    }

    // ---- Promises 31 to 42

    private static void addAndDrop() throws Exception {
        at("Promise 31", "A FIT comes, or has another COST (0 to 99): COST that it had (NONE: it was none)", """
            add(0, 0, 99) => -1 | add(0, 0, 0) => 99 | add(0, 0, 0) => 0 | add(0, 0, 5) => 0 | told(10) => 4 | told(2) => 1 | told(9) => 5
            add(0, 0, 100) => IAE | add(0, 0, -1) => IAE | add(0, 0, MAX) => IAE | add(0, 0, MIN) => IAE | cost(0, 0) => 5 | told(10) => 4
            drop(0, 0) => 5 | add(0, 0, 1) => -1
            tell "workers 12;tasks 12;keep 0;away worker 11;away task 11;" => 0 | add(11, 11, 7) => -1 | cost(11, 11) => 7 | add(11, 11, 8) => 7 | told(2) => 1 | told(3) => 0
            tell "workers 2;tasks 2;keep 0;fit 0 0 3;pair 0 0;" => 1 | add(0, 0, 4) => 3 | told(3) => 1 | told(9) => 4 | add(1, 1, 0) => -1 | told(3) => 1
            """);
        at("Promise 32", "A FIT is none any more (nor a PAIR): its COST", """
            add(0, 0, 7) => -1 | drop(0, 0) => 7 | cost(0, 0) => -1 | fits(0, 0) => 0 | fits(1, 0) => 0 | told(2) => 0 | told(3) => 0 | partner(0, 0) => -1 | partner(1, 0) => -1
            tell "workers 12;tasks 12;keep 0;fit 11 11 99;fit 11 0 4;pair 11 11;away worker 0;" => 1 | drop(11, 0) => 4 | told(3) => 1 | drop(11, 11) => 99 | told(3) => 0 | told(9) => 0
            cost(11, 0) => -1 | cost(11, 11) => -1 | told(2) => 0
            tell "workers 2;tasks 2;fit 0 0 3;fit 0 1 4;" => 1 | drop(0, 0) => 3 | partner(0, 0) => 1
            tell "workers 2;tasks 2;fit 0 0 3;away task 0;" => 0 | drop(0, 0) => 3 | told(2) => 0
            """);
        at("Promise 32", "IllegalArgumentException: it is none", """
            drop(0, 0) => IAE | told(10) => 0 | add(0, 0, 0) => -1 | drop(0, 0) => 0 | drop(0, 0) => IAE | told(10) => 2 | drop(0, 1) => NSEE | drop(1, 0) => NSEE | status(1) => 2 | status(0) => 2
            """);
    }

    private static void is() throws Exception {
        at("Promise 33", "A WORKER (side 0), a TASK (1)", """
            tell "workers 3;tasks 4;keep 0;" => 0 | is(0, 2, 0) => -1 | told(5) => 3 | told(6) => 15 | is(1, 3, 0) => -1 | told(5) => 3 | told(6) => 7
            is(0, 3, 0) => NSEE | is(1, 4, 0) => NSEE | is(2, 0, 0) => NSEE | is(-1, 0, 0) => NSEE | is(1, 2, 0) => -1 | told(6) => 3 | is(0, 2, 1) => -1 | told(5) => 7
            """);
        at("Promise 33", "goes AWAY (there 0; its PAIR is none any more), comes again (1): with whom it was paired (NONE)", """
            is(0, 0, 0) => -1 | told(5) => 0 | is(0, 0, 1) => -1 | told(5) => 1 | is(1, 0, 0) => -1 | told(6) => 0 | is(1, 0, 1) => -1 | told(6) => 1
            tell "workers 12;tasks 12;keep 0;fit 11 3 5;fit 2 11;pair 11 3;pair 2 11;" => 2
            is(0, 11, 0) => 3 | told(3) => 1 | partner(1, 3) => -1 | partner(0, 11) => -1 | fits(0, 11) => 8 | cost(11, 3) => 5
            is(0, 11, 1) => -1 | told(3) => 1 | partner(0, 11) => -1
            is(1, 11, 0) => 2 | told(3) => 0 | partner(0, 2) => -1 | told(6) => 2047 | is(1, 11, 1) => -1 | told(3) => 0
            tell "workers 2;tasks 1;fit 0 0;fit 1 0;" => 1 | is(0, 0, 0) => 0 | partner(0, 1) => 0 | is(0, 0, 1) => -1 | partner(0, 1) => 0 | partner(0, 0) => -1
            """);
        at("Promise 33", "IllegalArgumentException: it is so already", """
            is(0, 0, 1) => IAE | is(1, 0, 1) => IAE | is(0, 0, 0) => -1 | is(0, 0, 0) => IAE | is(1, 0, 0) => -1 | is(1, 0, 0) => IAE | told(10) => 2
            is(0, 0, 2) => IAE | is(0, 0, -1) => IAE | is(1, 0, MIN) => IAE | is(1, 0, MAX) => IAE | is(2, 0, 0) => NSEE | is(0, 1, 0) => NSEE | status(1) => 8 | status(0) => 2
            told(5) => 0 | told(6) => 0
            """);
    }

    private static void pairAndPart() throws Exception {
        at("Promise 34", "A FIT of two that are THERE becomes a PAIR, PAIRS of the two no more: PAIRS then", """
            tell "workers 3;tasks 3;keep 0;fit 0 0;fit 0 1;fit 1 0;fit 1 1;fit 2 2;" => 0
            pair(0, 0) => 1 | pair(2, 2) => 2 | pair(1, 1) => 3 | pair(0, 1) => 2 | partner(0, 0) => 1 | partner(0, 1) => -1 | partner(1, 0) => -1 | told(3) => 2
            pair(1, 1) => 2 | partner(0, 0) => -1 | pair(1, 0) => 2 | partner(1, 1) => -1 | told(10) => 6
            """);
        at("Promise 34", "(ahead of what KEEP does)", """
            tell "workers 2;tasks 2;fit 0 0;fit 0 1;fit 1 0;fit 1 1;" => 2 | partner(0, 0) => 0 | pair(0, 1) => 1 | told(3) => 2 | partner(0, 0) => 1 | partner(0, 1) => 0
            tell "workers 2;tasks 2;fit 0 0;fit 1 0;" => 1 | pair(1, 0) => 1 | partner(0, 1) => 0 | told(3) => 1
            tell "workers 3;tasks 3;fit 0 0;fit 1 1;fit 0 1;fit 2 2;" => 3 | pair(0, 1) => 2 | told(3) => 3 | partner(0, 0) => 0
            """);
        at("Promise 34", "IllegalArgumentException: it is none such, or a PAIR", """
            pair(0, 0) => IAE | add(0, 0, 0) => -1 | pair(0, 0) => IAE | keep(0) => 1 | part(0) => 0 | pair(0, 0) => 1 | pair(0, 0) => IAE
            is(0, 0, 0) => 0 | pair(0, 0) => IAE | is(0, 0, 1) => -1 | is(1, 0, 0) => -1 | pair(0, 0) => IAE | told(10) => 7 | told(3) => 0
            pair(0, 1) => NSEE | pair(1, 0) => NSEE | pair(-1, 0) => NSEE | pair(0, -1) => NSEE | status(1) => 5 | status(0) => 4
            """);
        at("Promise 35", "The PAIR of a WORKER is none any more: the TASK", """
            tell "workers 12;tasks 12;keep 0;fit 11 11;fit 0 0;pair 11 11;pair 0 0;" => 2 | part(11) => 11 | part(0) => 0 | told(3) => 0 | partner(1, 11) => -1 | told(2) => 2
            keep(1) => 0 | part(11) => 11 | told(3) => 2 | partner(0, 11) => 11
            tell "workers 12;tasks 1;keep 0;fit 11 0;pair 11 0;" => 1 | part(11) => 0 | told(3) => 0
            """);
        at("Promise 35", "IllegalArgumentException: it has none", """
            part(0) => IAE | is(0, 0, 0) => -1 | part(0) => IAE | told(10) => 1 | part(1) => NSEE | part(-1) => NSEE | status(1) => 2
            tell "workers 2;tasks 2;keep 0;fit 0 0;fit 1 1;pair 0 0;" => 1 | part(1) => IAE | part(0) => 0 | part(0) => IAE | told(10) => 1 | status(1) => 4
            """);
    }

    private static void weightTradeKeepSettle() throws Exception {
        at("Promise 36", "WEIGHT of a WORKER from now on: what it was", """
            weight(0, 0) => 1 | weight(0, 99) => 0 | weight(0, 99) => 99 | told(10) => 3 | weight(0, 100) => IAE | weight(0, -1) => IAE | weight(1, 0) => NSEE
            told(10) => 3 | weight(0, 1) => 99 | undo() => 3 | undo() => 2 | undo() => 1 | weight(0, 2) => 0
            tell "workers 12;tasks 1;away worker 11;" => 0 | weight(11, 98) => 1 | weight(11, 1) => 98 | weight(12, 1) => NSEE | weight(10, 5) => 1
            """);
        at("Promise 37", "TRADE is DONE: by how much COST is less; 0: there is none (no act)", """
            trade() => 0 | told(10) => 0
            tell "workers 12;tasks 12;keep 0;fit 0 0 99;fit 11 11 99;fit 0 11;fit 11 0;pair 0 0;pair 11 11;" => 2
            trade() => 198 | told(9) => 0 | told(3) => 2 | partner(0, 0) => 11 | partner(1, 0) => 11 | told(10) => 1 | trade() => 0 | told(10) => 1
            undo() => 0 | told(9) => 198 | partner(0, 0) => 0
            tell "workers 2;tasks 2;fit 0 0 1;fit 1 1;fit 0 1;fit 1 0;pair 0 0;pair 1 1;" => 2 | trade() => 1 | told(10) => 1
            tell "workers 2;tasks 2;fit 0 0;fit 1 1;fit 0 1;fit 1 0;pair 0 0;pair 1 1;" => 2 | trade() => 0 | told(10) => 0 | undo() => -1
            """);
        at("Promise 38", "KEEP from now on: what it was", """
            keep(0) => 1 | keep(0) => 0 | keep(1) => 0 | keep(1) => 1 | told(10) => 4 | keep(2) => IAE | keep(-1) => IAE | keep(MIN) => IAE | told(10) => 4 | told(4) => 1
            keep(0) => 1 | add(0, 0, 0) => -1 | told(3) => 0 | keep(1) => 0 | told(3) => 1 | undo() => 6 | told(3) => 0 | told(4) => 0
            """);
        at("Promise 39", "THE WAY is DONE, again and again, so often (1 to 12) or as long as there is one: how often", """
            settle(1) => 0 | settle(12) => 0 | settle(0) => IAE | settle(13) => IAE | settle(-1) => IAE | settle(MAX) => IAE
            tell "workers 3;tasks 3;keep 0;fit 0 0;fit 0 1;fit 1 0;fit 2 2;" => 0 | settle(1) => 1 | partner(0, 0) => 0 | settle(2) => 2 | partner(0, 0) => 1 | partner(0, 1) => 0 | settle(1) => 0
            """ + full(12, 12) + "settle(11) => 11 | told(3) => 11 | settle(12) => 1 | told(3) => 12 | undo() => 14 | told(3) => 11 | undo() => 13 | told(3) => 0 | settle(12) => 12 | settle(1) => 0");
        at("Promise 39", "It can be taken back, if it was once at least", """
            settle(1) => 0 | told(10) => 0 | undo() => -1 | keep(0) => 1 | add(0, 0, 0) => -1 | settle(1) => 1 | told(10) => 3 | settle(1) => 0 | told(10) => 3
            settle(13) => IAE | told(10) => 3 | undo() => 2 | told(3) => 0 | settle(12) => 1 | told(10) => 3
            """);
    }

    private static void undo() throws Exception {
        at("Promise 40", "All is as ahead of the latest add(), drop(), is(), pair(), part(), weight(), trade(), keep(), settle()", """
            tell "workers 3;tasks 3;keep 0;fit 0 0 9;fit 1 1 9;fit 0 1;fit 1 0;fit 2 2 5;weight 2 7;pair 0 0;" => 1
            add(2, 0, 3) => -1 | undo() => 0 | told(2) => 5 | cost(2, 0) => -1 | fits(1, 0) => 3 | add(2, 2, 6) => 5 | undo() => 0 | cost(2, 2) => 5
            drop(0, 0) => 9 | undo() => 0 | cost(0, 0) => 9 | partner(0, 0) => 0 | fits(0, 0) => 3 | fits(1, 0) => 3
            is(0, 0, 0) => 0 | undo() => 0 | told(5) => 7 | partner(0, 0) => 0 | is(1, 0, 0) => 0 | undo() => 0 | told(6) => 7 | partner(1, 0) => 0
            is(0, 2, 0) => -1 | is(0, 2, 1) => -1 | undo() => 1 | told(5) => 3 | undo() => 0 | told(5) => 7
            pair(1, 0) => 1 | undo() => 0 | partner(0, 0) => 0 | partner(0, 1) => -1 | part(0) => 0 | undo() => 0 | partner(0, 0) => 0
            weight(2, 0) => 7 | undo() => 0 | weight(2, 7) => 7 | undo() => 0 | pair(1, 1) => 2 | trade() => 18 | undo() => 1 | partner(0, 0) => 0 | told(9) => 18 | undo() => 0
            keep(1) => 0 | told(3) => 3 | undo() => 0 | told(4) => 0 | told(3) => 1 | settle(2) => 2 | undo() => 0 | told(3) => 1 | partner(0, 1) => -1 | undo() => -1
            many() => 2 | drop(0, 0) => 9 | many() => 1 | undo() => 0 | many() => 2 | cheap(0) => 5
            """);
        at("Promise 40", "All is as ahead of the latest add()", """
            tell "workers 2;tasks 2;fit 0 0;fit 0 1;" => 1 | partner(0, 0) => 0 | add(1, 0, 0) => -1 | partner(0, 0) => 1 | undo() => 0 | partner(0, 0) => 0 | partner(0, 1) => -1 | told(3) => 1
            is(1, 0, 0) => 0 | partner(0, 0) => 1 | undo() => 0 | partner(0, 0) => 0 | pair(0, 1) => 1 | undo() => 0 | partner(0, 0) => 0 | told(4) => 1
            """);
        at("Promise 40", "(the latest 15 can be taken back): how many still can", from(2, 15, "weight(0, #) => @") + "told(10) => 14 | weight(0, 16) => 15 | told(10) => 15\n"
            + from(17, 40, "weight(0, #) => @") + "told(10) => 15 | undo() => 14 | undo() => 13 | weight(0, 50) => 38 | told(10) => 14 | weight(0, 51) => 50 | weight(0, 52) => 51 | told(10) => 15\n"
            + "undo() => 14 | undo() => 13 | undo() => 12 | undo() => 11 | undo() => 10 | undo() => 9 | undo() => 8 | undo() => 7 | undo() => 6 | undo() => 5 | undo() => 4 | undo() => 3 | undo() => 2\n"
            + "undo() => 1 | undo() => 0 | undo() => -1 | undo() => -1 | weight(0, 0) => 26 | told(10) => 1");
        at("Promise 40", "NONE: none could", """
            undo() => -1 | told(10) => 0 | add(0, 0, 0) => -1 | undo() => 0 | undo() => -1 | told(2) => 0 | add(0, 0, 100) => IAE | part(0) => IAE | keep(5) => IAE | undo() => -1
            trade() => 0 | settle(12) => 0 | undo() => -1 | status(1) => 3
            """);
    }

    private static void printAndStatus() throws Exception {
        at("Promise 41", "From 0 on, of WORKERS in order", """
            print() => 0
            tell "workers 3;tasks 12;fit 0 11;fit 1 4;fit 2 0;" => 3 | print() => 2094 | is(0, 2, 0) => 0 | print() => 2093 | is(0, 0, 0) => 11 | print() => 65
            tell "workers 3;tasks 12;fit 0 0;fit 1 4;fit 2 11;" => 3 | print() => 246
            """);
        at("Promise 41", "13 times what there is, and the TASK with which it is paired, and 1 (0: with none)", """
            print() => 0 | add(0, 0, 0) => -1 | print() => 1 | is(0, 0, 0) => 0 | print() => 0
            tell "workers 2;tasks 12;fit 0 11;fit 1 0;" => 2 | print() => 157 | drop(0, 11) => 0 | print() => 1
            tell "workers 12;tasks 12;fit 0 0;" => 1 | print() => 1792160394037
            """ + "tell \"workers 12;tasks 12;keep 0;\" => 0\n" + from(0, 11, "add(#, 11, 0) => -1") + "pair(0, 11) => 1 | print() => 21505924728444 | pair(11, 11) => 1 | print() => 12\n"
            + "tell \"workers 12;tasks 12;\" => 0\n" + from(0, 11, "add(#, #, 0) => -1") + "print() => 2103299351334");
        at("Promise 42", "How many calls were refused: 0 NoSuchElementException, 1 IllegalArgumentException; NONE for others", """
            status(0) => 0 | status(1) => 0 | status(2) => -1 | status(-1) => -1 | status(MAX) => -1 | status(MIN) => -1 | status(0) => 0 | status(1) => 0
            partner(0, 1) => NSEE | status(0) => 1 | status(1) => 0 | text(1) => IAE | status(0) => 1 | status(1) => 1 | add(1, 0, 100) => NSEE | status(0) => 2 | status(1) => 1
            undo() => -1 | settle(1) => 0 | trade() => 0 | text(0) => -9 | wayAt(0) => NSEE | part(0) => IAE | status(0) => 3 | status(1) => 2
            tell "workers 2;tasks 2;" => 0 | status(0) => 3 | status(1) => 2 | weight(0, 3) => 1 | undo() => 0 | status(0) => 3 | status(1) => 2
            """);
    }
}
