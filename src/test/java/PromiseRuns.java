import java.lang.reflect.InvocationTargetException;
import java.lang.reflect.Method;
import java.util.NoSuchElementException;

/**
 * Each promise of the document, one by one: ordinary calls, edges, wrong calls.
 * A row is "call => answer"; tell "TEXT" feeds a text and has it read; NSEE and IAE are the exceptions.
 */
public final class PromiseRuns {
    private static final int[] asked = new int[43];
    private static int wrong = 0;

    public static void main(String[] args) throws Exception {
        newObject();
        tapeAndText();
        faults();
        looks();
        ways();
        phases();
        mostAndCover();
        kinds();
        lackAndHall();
        countsAndCosts();
        changesInThought();
        weightsAndRounds();
        acts();
        keepAndSettle();
        undoAndRest();
        int sum = 0;
        for (int promise = 1; promise <= 42; promise++) {
            sum += asked[promise];
            if (asked[promise] == 0) {
                wrong++;
                System.out.println("promise " + promise + " has no test");
            }
        }
        System.out.println(sum + " answers asked, " + wrong + " wrong");
        if (wrong != 0) {
            System.exit(1);
        }
    }

    /** Runs rows on a new object. */
    private static void run(int promise, String rows) throws Exception {
        PairKeeper x = new PairKeeper();
        for (String row : rows.split("\n")) {
            if (row.isBlank()) {
                continue;
            }
            int arrow = row.lastIndexOf("=>");
            String call = row.substring(0, arrow).strip();
            String due = row.substring(arrow + 2).strip();
            String got = call.startsWith("tell ") ? tell(x, call) : answer(x, call);
            asked[promise]++;
            if (!got.equals(due)) {
                wrong++;
                System.out.println("promise " + promise + ": " + call + " answered " + got + ", due is " + due);
            }
        }
    }

    private static String tell(PairKeeper x, String call) throws Exception {
        String text = call.substring(call.indexOf('"') + 1, call.lastIndexOf('"'));
        return answer(x, "text(" + feed(x, text) + ")");
    }

    private static int feed(PairKeeper x, String text) {
        for (int at = 0; at < text.length(); at += 20) {
            int[] five = new int[5];
            for (int k = 0; k < 20; k++) {
                int sign = at + k < text.length() ? text.charAt(at + k) : 0;
                five[k / 4] = five[k / 4] << 8 | sign;
            }
            x.feed(five[0], five[1], five[2], five[3], five[4]);
        }
        return text.length();
    }

    private static String answer(PairKeeper x, String call) throws Exception {
        String name = call.substring(0, call.indexOf('('));
        String inside = call.substring(call.indexOf('(') + 1, call.lastIndexOf(')')).strip();
        String[] parts = inside.isEmpty() ? new String[0] : inside.split(",");
        Class<?>[] types = new Class<?>[parts.length];
        Object[] values = new Object[parts.length];
        for (int k = 0; k < parts.length; k++) {
            types[k] = int.class;
            values[k] = Integer.parseInt(parts[k].strip());
        }
        Method method = PairKeeper.class.getMethod(name, types);
        try {
            return method.invoke(x, values).toString();
        } catch (InvocationTargetException e) {
            Class<?> thrown = e.getCause().getClass();
            return thrown == NoSuchElementException.class ? "NSEE"
                : thrown == IllegalArgumentException.class ? "IAE" : e.getCause().toString();
        }
    }

    private static void newObject() throws Exception {
        run(1, """
            told(0) => 1
            told(1) => 1
            told(2) => 0
            told(3) => 0
            told(4) => 1
            told(5) => 1
            told(6) => 1
            told(7) => 1
            told(8) => 1
            told(9) => 0
            told(10) => 0
            told(11) => 0
            fault() => -1
            cost(0, 0) => -1
            undo() => -1
            status(0) => 0
            status(1) => 0
            weight(0, 7) => 1
            partner(0, 0) => -1
            partner(1, 0) => -1
            """);
    }

    private static void tapeAndText() throws Exception {
        StringBuilder many = new StringBuilder();
        for (int k = 1; k <= 15; k++) {
            many.append("feed(0, -1, 2147483647, -2147483648, 5) => ").append(20 * k).append('\n');
        }
        many.append("feed(0, 0, 0, 0, 0) => -1\n told(11) => 300\n feed(1, 1, 1, 1, 1) => -1\n");
        many.append("text(301) => IAE\n told(11) => 300\n text(300) => -9\n told(11) => 0\n fault() => 0\n");
        many.append("feed(0, 0, 0, 0, 0) => 20\n told(11) => 20\n");
        run(2, many.toString());
        run(2, """
            feed(2003792491, 1701999392, 842757217, 1936421664, 842727424) => 20
            text(18) => 0
            told(0) => 2
            told(1) => 2
            feed(-1, 0, 0, 0, 0) => 20
            text(1) => -9
            feed(538976288, 0, 0, 0, 0) => 20
            text(4) => -9
            fault() => 4
            """);
        run(3, """
            tell "workers 3;tasks 2;fit 0 1 7;fit 1 0;fit 1 0 4;weight 2 9;away worker 2;" => 2
            told(0) => 3
            told(1) => 2
            told(2) => 2
            told(3) => 2
            told(4) => 1
            told(5) => 3
            told(6) => 3
            told(11) => 0
            cost(0, 1) => 7
            cost(1, 0) => 4
            weight(2, 1) => 9
            weight(1, 1) => 1
            told(10) => 2
            tell "workers 1;tasks 1;x" => -9
            told(0) => 3
            told(10) => 2
            told(11) => 0
            tell "workers 1;tasks 12;" => 0
            told(0) => 1
            told(1) => 12
            told(5) => 1
            told(6) => 4095
            told(10) => 0
            undo() => -1
            cost(0, 1) => -1
            """);
        run(3, """
            tell "  workers012 ; tasks 1;fit0 0  99;fit 11 00;  pair 11 0 ; keep0;weight00 099;  " => 1
            told(0) => 12
            told(4) => 0
            cost(0, 0) => 99
            cost(11, 0) => 0
            partner(0, 11) => 0
            weight(0, 5) => 99
            keep(1) => 0
            tell "workers 2;tasks 2;" => 0
            keep(1) => 1
            weight(0, 3) => 1
            """);
        run(3, """
            tell "workers 2;tasks 2;keep 0;fit 0 0;fit 1 0;pair 1 0;weight 0 4;weight 0 6;fit 0 0;" => 1
            partner(1, 0) => 1
            weight(0, 1) => 6
            text(0) => -9
            text(1) => IAE
            text(-1) => IAE
            text(2147483647) => IAE
            status(1) => 3
            told(3) => 1
            """);
        run(3, """
            tell "workers 2;tasks 2;fit 0 0;fit 1 0;pair 1 0;" => 1
            partner(1, 0) => 1
            tell "workers 2;tasks 2;fit 0 0;fit 1 0;fit 1 1;pair 1 0;" => 2
            partner(0, 0) => 0
            partner(0, 1) => 1
            """);
        run(3, """
            feed(2003792491, 1701999392, 842757217, 1936421664, 842727424) => 20
            text(21) => IAE
            told(11) => 20
            text(18) => 0
            text(1) => IAE
            """);
    }

    private static void faults() throws Exception {
        run(4, """
            fault() => -1
            tell "" => -9
            fault() => 0
            tell "   " => -9
            fault() => 3
            text(-1) => IAE
            fault() => 3
            tell "workers 2;tasks 2;" => 0
            fault() => -1
            tell "worker 2;" => -9
            fault() => 0
            tell "work" => -9
            fault() => 0
            tell "  workersx 2;" => -9
            fault() => 2
            tell "workers" => -9
            fault() => 7
            tell "workers ;" => -9
            fault() => 8
            tell "workers 2 2;" => -9
            fault() => 10
            tell "workers 2;tasks 2;;" => -9
            fault() => 18
            tell "workers 2;tasks 2;  5;" => -9
            fault() => 20
            tell "workers 2;tasks 2;Fit 0 0;" => -9
            fault() => 18
            tell "workers 2;tasks 2;fit 0 0 -1;" => -9
            fault() => 26
            tell "workers 2;tasks 2;fit 0 0" => -9
            fault() => 25
            tell "workers 2;tasks 2;fit 0 0  " => -9
            fault() => 27
            tell "workers 2;tasks 2;away 0;" => -9
            fault() => 23
            tell "workers 2;tasks 2;away tasks 0;" => -9
            fault() => 23
            tell "workers 2;tasks 2;keep ;" => -9
            fault() => 23
            tell "workers 2;tasks 2;keep 1;keep" => -7
            fault() => 25
            """);
        run(4, """
            tell "workers 0;" => -8
            fault() => 8
            tell "workers 13x" => -8
            fault() => 8
            tell "workers 99999999999999999999999999999999999" => -8
            fault() => 8
            tell "workers 4294967297;tasks 1;" => -8
            fault() => 8
            tell "workers 0000000000000000000000000000000000012;tasks 0012;" => 0
            fault() => -1
            tell "workers 2;tasks 13;" => -8
            fault() => 16
            tell "workers 2;tasks 3;fit 2 0;" => -8
            fault() => 22
            tell "workers 2;tasks 3;fit 1 3;" => -8
            fault() => 24
            tell "workers 2;tasks 3;fit 1 2 100;" => -8
            fault() => 26
            tell "workers 2;tasks 3;weight 2 1;" => -8
            fault() => 25
            tell "workers 2;tasks 3;weight 1 100;" => -8
            fault() => 27
            tell "workers 2;tasks 3;keep 2;" => -8
            fault() => 23
            tell "workers 2;tasks 3;away worker 2;" => -8
            fault() => 30
            tell "workers 2;tasks 3;away task 3;" => -8
            fault() => 28
            tell "workers 2;tasks 3;keep 0;fit 0 0;keep 5;" => -7
            fault() => 33
            tell "workers 2;tasks 3;fit 2 0;x;" => -8
            fault() => 22
            tell "workers 2;tasks 3;fit 0 3;fit 5 5;" => -8
            fault() => 24
            tell "workers 2;tasks 3;fit 0 0 100;away worker 7;" => -8
            fault() => 26
            tell "workers 2;tasks 3;weight 5 0;x;" => -8
            fault() => 25
            tell "workers 2;tasks 3;weight 0 100;x;" => -8
            fault() => 27
            tell "workers 2;tasks 3;away worker 7;x;" => -8
            fault() => 30
            tell "workers 2;tasks 3;keep 7;x;" => -8
            fault() => 23
            tell "workers 2;tasks 13;x;" => -8
            fault() => 16
            tell "workers 13;tasks 13;x;" => -8
            fault() => 8
            """);
        run(4, """
            tell "workers 2;tasks 3;pair 0 0;fit 0 0;" => -6
            fault() => 23
            tell "workers 2;tasks 3;fit 0 0;away worker 0;pair 0 9;" => -6
            fault() => 45
            tell "workers 2;tasks 3;fit 0 0;away worker 0;pair 0 x" => -6
            fault() => 45
            tell "workers 2;tasks 3;fit 0 0;away task 0;pair 0 0;" => -6
            fault() => 43
            tell "workers 2;tasks 3;fit 0 0;fit 0 1;pair 0 0;pair 0 1;" => -6
            fault() => 48
            tell "workers 2;tasks 3;fit 0 0;fit 1 0;pair 0 0;pair 1 0;" => -6
            fault() => 48
            tell "workers 2;tasks 3;pair 0 3;" => -8
            fault() => 25
            tell "workers 2;tasks 3;pair 0 ;" => -9
            fault() => 25
            tell "workers 2;tasks 3;pair 2 0;" => -8
            fault() => 23
            tell "workers 2;tasks 3;pair 0 0" => -6
            fault() => 23
            tell "workers 2;tasks 3;away task 2;away task 2;" => -5
            fault() => 40
            tell "workers 2;tasks 3;fit 0 0;pair 0 0;away worker 0;" => -5
            fault() => 47
            tell "workers 2;tasks 3;fit 0 0;pair 0 0;away task   0" => -5
            fault() => 47
            told(0) => 1
            """);
    }

    private static void looks() throws Exception {
        String net = """
            tell "workers 4;tasks 3;keep 0;fit 0 0 5;fit 0 1 8;fit 1 1;fit 3 2 9;fit 2 1 1;away task 2;away worker 2;pair 0 1;" => 1
            """;
        run(5, net + """
            told(0) => 4
            told(1) => 3
            told(2) => 5
            told(3) => 1
            told(4) => 0
            told(5) => 11
            told(6) => 3
            told(7) => 10
            told(8) => 1
            told(9) => 8
            told(10) => 0
            told(11) => 0
            part(0) => 1
            told(3) => 0
            told(7) => 11
            told(8) => 3
            told(9) => 0
            told(10) => 1
            feed(1, 2, 3, 4, 5) => 20
            told(11) => 20
            told(-1) => IAE
            told(12) => IAE
            told(2147483647) => IAE
            status(1) => 3
            """);
        run(6, net + """
            partner(0, 0) => 1
            partner(1, 1) => 0
            partner(0, 1) => -1
            partner(1, 0) => -1
            partner(0, 3) => -1
            partner(0, 4) => NSEE
            partner(1, 3) => NSEE
            partner(2, 0) => NSEE
            partner(-1, 0) => NSEE
            partner(0, -1) => NSEE
            partner(1, -1) => NSEE
            status(0) => 6
            """);
        run(7, net + """
            cost(0, 0) => 5
            cost(1, 1) => 0
            cost(2, 1) => 1
            cost(3, 2) => 9
            cost(1, 0) => -1
            cost(4, 0) => NSEE
            cost(0, 3) => NSEE
            cost(-1, 0) => NSEE
            cost(0, -1) => NSEE
            """);
        run(8, net + """
            fits(0, 0) => 3
            fits(0, 3) => 4
            fits(0, 2) => 2
            fits(1, 0) => 1
            fits(1, 1) => 7
            fits(1, 2) => 8
            fits(1, 3) => NSEE
            fits(0, 4) => NSEE
            fits(2, 0) => NSEE
            fits(-1, 0) => NSEE
            fits(0, -1) => NSEE
            drop(2, 1) => 1
            fits(1, 1) => 3
            fits(0, 2) => 0
            add(2, 2, 0) => -1
            fits(0, 2) => 4
            fits(1, 2) => 12
            """);
    }

    private static void ways() throws Exception {
        // worker 0 has none; worker 1: over 0-w0-1, not the longer way; ties by the lesser task
        String net = """
            tell "workers 5;tasks 5;keep 0;fit 0 0;fit 0 3;fit 2 1;fit 2 3;fit 2 4;fit 1 0;fit 1 1;pair 0 0;pair 2 1;away worker 3;" => 2
            """;
        run(9, net + """
            way() => 4
            settle(1) => 1
            way() => 0
            part(1) => 0
            is(1, 3, 0) => 0
            way() => 2
            """);
        run(9, """
            tell "workers 3;tasks 3;keep 0;fit 0 0;fit 1 0;fit 1 1;fit 2 1;fit 2 2;pair 1 0;pair 2 1;" => 2
            way() => 6
            is(0, 0, 0) => -1
            way() => 0
            """);
        run(10, net + """
            wayAt(0) => 1
            wayAt(1) => 0
            wayAt(2) => 0
            wayAt(3) => 3
            wayAt(4) => NSEE
            wayAt(-1) => NSEE
            is(1, 3, 0) => -1
            wayAt(1) => 1
            wayAt(2) => 2
            wayAt(3) => 4
            settle(12) => 1
            wayAt(0) => NSEE
            status(0) => 3
            """);
        run(10, """
            tell "workers 3;tasks 3;keep 0;fit 0 0;fit 1 0;fit 1 1;fit 2 1;fit 2 2;pair 1 0;pair 2 1;" => 2
            wayAt(0) => 0
            wayAt(1) => 0
            wayAt(2) => 1
            wayAt(3) => 1
            wayAt(4) => 2
            wayAt(5) => 2
            wayAt(6) => NSEE
            """);
        // the least worker counts ahead of the shortest way
        run(10, """
            tell "workers 3;tasks 3;keep 0;fit 0 0;fit 1 0;fit 1 1;fit 2 2;pair 1 0;" => 1
            way() => 4
            wayAt(0) => 0
            """);
        run(11, net + """
            wayFrom(0, 0) => 0
            wayFrom(0, 1) => 0
            wayFrom(1, 0) => 1
            wayFrom(1, 1) => 4
            wayFrom(3, 0) => 0
            wayFrom(4, 1) => 0
            wayFrom(5, 0) => NSEE
            wayFrom(-1, 0) => NSEE
            wayFrom(1, 2) => IAE
            wayFrom(1, -1) => IAE
            wayFrom(5, 2) => NSEE
            status(0) => 3
            status(1) => 2
            told(3) => 2
            """);
    }

    private static void phases() throws Exception {
        // 1st phase 0-0 and 1-1, then 2 by 0-0-1-1-... : worker 2 takes 0, worker 0 takes 1, worker 1 takes 2
        String net = """
            tell "workers 3;tasks 3;keep 0;fit 0 0;fit 0 1;fit 1 1;fit 1 2;fit 2 0;" => 0
            """;
        run(12, net + """
            phases(0) => 2
            phases(1) => 3
            phases(2) => 2
            phases(3) => 6
            phases(4) => IAE
            phases(-1) => IAE
            told(3) => 0
            is(0, 2, 0) => -1
            phases(0) => 1
            phases(1) => 2
            phases(3) => 2
            is(0, 0, 0) => -1
            is(0, 1, 0) => -1
            phases(0) => 0
            phases(1) => 0
            phases(2) => 0
            phases(3) => 0
            """);
        run(13, net + """
            phased(0) => 1
            phased(1) => 2
            phased(2) => 0
            phased(3) => NSEE
            phased(-1) => NSEE
            partner(0, 0) => -1
            is(1, 2, 0) => -1
            phased(0) => 0
            phased(1) => 1
            phased(2) => -1
            """);
        // who was looked at in vain is not looked at again: 3 finds no way by task 0 in the second phase
        run(13, """
            tell "workers 4;tasks 3;fit 0 0;fit 1 0;fit 2 0;fit 0 1;fit 3 1;fit 3 2;" => 3
            phases(0) => 2
            phases(1) => 3
            phases(2) => 2
            phases(3) => 6
            phased(0) => 1
            phased(1) => 0
            phased(2) => -1
            phased(3) => 2
            """);
    }

    private static void mostAndCover() throws Exception {
        String net = """
            tell "workers 4;tasks 4;keep 0;fit 0 0;fit 1 0;fit 2 1;fit 2 2;fit 2 3;fit 3 3;away task 3;" => 0
            """;
        run(14, net + """
            most() => 2
            told(3) => 0
            is(1, 3, 1) => -1
            most() => 3
            drop(3, 3) => 0
            most() => 2
            """);
        run(15, net + """
            reached(0) => 11
            reached(1) => 1
            reached(2) => NSEE
            reached(-1) => NSEE
            add(2, 0, 1) => -1
            reached(0) => 11
            reached(1) => 1
            is(1, 0, 0) => -1
            reached(1) => 0
            reached(0) => 11
            """);
        run(16, net + """
            cover(0) => 4
            cover(1) => 1
            cover(2) => NSEE
            cover(-1) => NSEE
            is(0, 2, 0) => -1
            cover(0) => 0
            cover(1) => 1
            status(0) => 2
            """);
        run(17, net + """
            of(0, 2, 0) => 1
            of(0, 0, 0) => 0
            of(0, 3, 0) => 0
            of(1, 0, 0) => 1
            of(1, 1, 0) => 0
            of(1, 3, 0) => 0
            of(0, 2, 1) => 1
            of(0, 0, 1) => 2
            of(1, 0, 1) => 1
            of(1, 3, 1) => 2
            of(0, 0, 2) => 1
            of(0, 3, 2) => 1
            of(0, 2, 2) => 2
            of(1, 0, 2) => 1
            of(1, 1, 2) => 2
            of(1, 3, 2) => 0
            of(0, 4, 0) => NSEE
            of(1, 4, 0) => NSEE
            of(2, 0, 0) => NSEE
            of(0, -1, 5) => NSEE
            of(0, 0, 3) => IAE
            of(0, 0, -1) => IAE
            of(1, 3, 3) => IAE
            is(0, 3, 0) => -1
            of(0, 3, 2) => 0
            of(0, 3, 1) => 2
            """);
        run(17, """
            tell "workers 2;tasks 2;fit 0 0;fit 1 1;fit 0 1;" => 2
            of(0, 0, 2) => 3
            of(1, 1, 2) => 3
            of(0, 0, 0) => 1
            of(1, 1, 1) => 1
            """);
    }

    private static void kinds() throws Exception {
        String net = """
            tell "workers 4;tasks 4;keep 0;fit 0 0;fit 0 1;fit 1 0;fit 1 1;fit 2 1;fit 2 2;fit 3 3;away worker 3;" => 0
            """;
        run(18, net + """
            fit(0, 0) => 2
            fit(1, 1) => 2
            fit(2, 1) => 1
            fit(2, 2) => 3
            fit(3, 3) => 1
            fit(3, 0) => 0
            fit(2, 3) => 0
            fit(4, 0) => NSEE
            fit(0, 4) => NSEE
            fit(-1, 0) => NSEE
            fit(0, -1) => NSEE
            drop(1, 1) => 0
            fit(0, 1) => 3
            fit(0, 0) => 1
            is(0, 3, 1) => -1
            fit(3, 3) => 3
            add(3, 2, 0) => -1
            fit(3, 3) => 3
            add(2, 3, 0) => -1
            fit(3, 3) => 2
            """);
        run(19, net + """
            fitMany(1) => 2
            fitMany(2) => 4
            fitMany(3) => 1
            fitMany(0) => IAE
            fitMany(4) => IAE
            fitMany(-1) => IAE
            is(0, 0, 0) => -1
            fitMany(1) => 3
            fitMany(2) => 4
            fitMany(3) => 0
            """);
    }

    private static void lackAndHall() throws Exception {
        String net = """
            tell "workers 4;tasks 3;keep 0;fit 0 0;fit 1 0;fit 2 0;fit 2 1;fit 3 1;fit 3 2;away worker 1;" => 0
            """;
        run(20, net + """
            lack(0) => 0
            lack(1) => 0
            lack(2) => 0
            lack(3) => 0
            lack(15) => 0
            lack(12) => -1
            is(0, 1, 1) => -1
            lack(3) => 1
            lack(7) => 1
            lack(15) => 1
            is(1, 0, 0) => -1
            lack(3) => 2
            lack(16) => IAE
            lack(-1) => IAE
            lack(-2147483648) => IAE
            """);
        run(20, """
            tell "workers 12;tasks 1;" => 0
            lack(4095) => 12
            lack(4096) => IAE
            """);
        run(21, net + """
            hall(0) => 0
            hall(1) => 0
            is(0, 1, 1) => -1
            hall(0) => 1
            hall(1) => 3
            is(1, 0, 0) => -1
            hall(0) => 2
            hall(1) => 3
            hall(2) => IAE
            hall(-1) => IAE
            told(3) => 0
            """);
    }

    private static void countsAndCosts() throws Exception {
        String net = """
            tell "workers 3;tasks 3;keep 0;fit 0 0 4;fit 0 1 2;fit 1 0 3;fit 1 1 1;fit 2 0 9;fit 2 1 9;" => 0
            """;
        run(22, net + """
            many() => 6
            is(0, 2, 0) => -1
            many() => 2
            is(1, 0, 0) => -1
            many() => 2
            is(1, 1, 0) => -1
            many() => 1
            """);
        run(23, net + """
            cheap(0) => 5
            cheap(1) => 2
            cheap(2) => IAE
            cheap(-1) => IAE
            add(1, 1, 2) => 1
            cheap(0) => 5
            cheap(1) => 1
            is(1, 1, 0) => -1
            cheap(0) => 3
            cheap(1) => 1
            add(0, 0, 3) => 4
            cheap(1) => 2
            is(1, 0, 0) => -1
            cheap(0) => 0
            cheap(1) => 1
            """);
        run(24, net + """
            cheapest(0) => 0
            cheapest(1) => 1
            cheapest(2) => -1
            cheapest(3) => NSEE
            cheapest(-1) => NSEE
            partner(0, 0) => -1
            add(1, 0, 2) => 3
            cheapest(0) => 1
            cheapest(1) => 0
            is(1, 1, 0) => -1
            add(0, 0, 2) => 4
            cheapest(0) => 0
            cheapest(1) => -1
            undo() => 2
            undo() => 1
            undo() => 0
            cheapest(1) => 1
            """);
        run(25, net + """
            narrow() => 3
            drop(0, 1) => 2
            narrow() => 4
            is(0, 0, 0) => -1
            narrow() => 9
            is(0, 1, 0) => -1
            is(0, 2, 0) => -1
            narrow() => -1
            is(0, 0, 1) => -1
            add(0, 2, 0) => -1
            narrow() => 0
            add(0, 2, 99) => 0
            drop(0, 0) => 4
            narrow() => 99
            """);
        StringBuilder full = new StringBuilder("tell \"workers 12;tasks 12;keep 0;\" => 0\n");
        for (int w = 0; w < 12; w++) {
            for (int t = 0; t < 12; t++) {
                full.append("add(" + w + ", " + t + ", 0) => -1\n");
            }
        }
        run(22, full + "many() => 479001600\n settle(12) => 12\n many() => 479001600\n most() => 12\n rounds() => 12\n");
        run(23, full + "cheap(0) => 0\n cheap(1) => 479001600\n cheapest(11) => 11\n cheapest(0) => 0\n");
    }

    private static void changesInThought() throws Exception {
        String net = """
            tell "workers 4;tasks 4;keep 0;fit 0 0;fit 1 0;fit 2 1;fit 2 2;fit 3 3;away worker 3;" => 0
            """;
        run(26, net + """
            more(0) => 6
            more(1) => 1
            more(2) => IAE
            more(-1) => IAE
            add(0, 1, 0) => -1
            more(0) => 0
            more(1) => -1
            told(2) => 6
            undo() => 0
            is(1, 1, 0) => -1
            more(0) => 2
            more(1) => 3
            is(0, 0, 0) => -1
            more(0) => 0
            more(1) => -1
            is(1, 2, 0) => -1
            more(0) => 1
            more(1) => 203
            """);
        run(26, """
            more(0) => 1
            more(1) => 0
            is(1, 0, 0) => -1
            more(0) => 0
            more(1) => -1
            """);
        run(27, """
            fewest(0) => -1
            fewest(1) => -1
            add(0, 0, 3) => -1
            fewest(0) => 1
            fewest(1) => 0
            is(0, 0, 0) => 0
            fewest(0) => -1
            tell "workers 3;tasks 3;keep 0;fit 0 0;fit 0 1;fit 1 0;fit 1 1;fit 2 2;" => 0
            fewest(0) => 1
            fewest(1) => 202
            is(0, 2, 0) => -1
            fewest(0) => 2
            fewest(1) => 0
            add(0, 2, 0) => -1
            fewest(0) => 2
            fewest(1) => 100
            add(1, 2, 0) => -1
            fewest(0) => -1
            fewest(1) => -1
            fewest(2) => IAE
            fewest(-1) => IAE
            told(2) => 7
            """);
    }

    private static void weightsAndRounds() throws Exception {
        String net = """
            tell "workers 4;tasks 3;keep 0;fit 0 0;fit 1 0;fit 2 0;fit 2 1;fit 3 2;weight 1 3;weight 2 0;weight 3 9;away worker 3;" => 0
            """;
        run(28, net + """
            chosen(0) => 6
            chosen(1) => 3
            weight(0, 3) => 1
            chosen(0) => 5
            chosen(1) => 3
            weight(2, 99) => 0
            chosen(0) => 5
            chosen(1) => 102
            is(1, 1, 0) => -1
            chosen(0) => 4
            chosen(1) => 99
            is(0, 3, 1) => -1
            chosen(0) => 12
            chosen(1) => 108
            chosen(2) => IAE
            chosen(-1) => IAE
            partner(0, 2) => -1
            """);
        run(29, """
            rounds() => 0
            tell "workers 3;tasks 3;keep 0;fit 0 0;fit 1 0;fit 2 0;fit 2 1;away worker 1;" => 0
            rounds() => 2
            is(0, 1, 1) => -1
            rounds() => 3
            is(1, 0, 0) => -1
            rounds() => 1
            is(1, 1, 0) => -1
            rounds() => 0
            """);
        // 1-0 makes 0-0 change to 1; 2-0 makes 1-0 change from 0 to 2; 2-1 then has 1
        run(30, """
            tell "workers 3;tasks 3;keep 0;fit 0 0;fit 1 0;fit 2 0;fit 2 1;away task 2;fit 0 2;" => 0
            round(0, 0) => 1
            round(1, 0) => 2
            round(2, 0) => 0
            round(2, 1) => 1
            round(0, 2) => -1
            round(0, 1) => -1
            round(3, 0) => NSEE
            round(0, 3) => NSEE
            round(-1, 0) => NSEE
            round(0, -1) => NSEE
            """);
        // a longer row changes: 1-1 asks a = 1, b = 0 there
        run(30, """
            tell "workers 3;tasks 3;keep 0;fit 0 0;fit 0 1;fit 1 0;fit 1 1;fit 2 1;" => 0
            rounds() => 3
            round(0, 0) => 1
            round(0, 1) => 2
            round(1, 0) => 0
            round(1, 1) => 1
            round(2, 1) => 0
            """);
    }

    private static void acts() throws Exception {
        run(31, """
            tell "workers 2;tasks 2;" => 0
            add(0, 1, 5) => -1
            told(3) => 1
            cost(0, 1) => 5
            add(0, 1, 99) => 5
            cost(0, 1) => 99
            partner(0, 0) => 1
            told(9) => 99
            add(0, 1, 0) => 99
            add(0, 1, 0) => 0
            told(10) => 4
            add(0, 0, 100) => IAE
            add(0, 0, -1) => IAE
            add(2, 0, 0) => NSEE
            add(0, 2, 0) => NSEE
            add(-1, 0, 100) => NSEE
            told(10) => 4
            told(2) => 1
            is(0, 1, 0) => -1
            add(1, 0, 3) => -1
            told(3) => 1
            fits(1, 0) => 2
            is(0, 1, 1) => -1
            told(3) => 2
            """);
        run(32, """
            tell "workers 2;tasks 2;fit 0 0 7;fit 0 1 8;" => 1
            partner(0, 0) => 0
            drop(0, 0) => 7
            partner(0, 0) => 1
            partner(1, 0) => -1
            cost(0, 0) => -1
            drop(0, 0) => IAE
            drop(2, 0) => NSEE
            drop(0, 2) => NSEE
            drop(-1, 5) => NSEE
            told(10) => 1
            drop(0, 1) => 8
            told(3) => 0
            told(2) => 0
            """);
        run(33, """
            tell "workers 2;tasks 2;fit 0 0 7;fit 1 0 8;fit 1 1;pair 1 0;keep 0;" => 1
            is(0, 1, 0) => 0
            told(3) => 0
            told(5) => 1
            is(0, 1, 0) => IAE
            is(0, 1, 1) => -1
            told(3) => 0
            is(0, 1, 1) => IAE
            pair(1, 0) => 1
            is(1, 0, 0) => 1
            told(6) => 2
            partner(0, 1) => -1
            is(1, 0, 2) => IAE
            is(1, 0, -1) => IAE
            is(2, 0, 0) => NSEE
            is(0, 2, 0) => NSEE
            is(1, 2, 5) => NSEE
            is(-1, 0, 0) => NSEE
            told(10) => 4
            keep(1) => 0
            partner(0, 1) => 1
            is(1, 0, 1) => -1
            told(3) => 2
            is(0, 1, 0) => 1
            partner(0, 0) => 0
            """);
        run(34, """
            tell "workers 3;tasks 3;keep 0;fit 0 0;fit 0 1;fit 1 0;fit 1 1;fit 2 2;away task 2;" => 0
            is(0, 0, 0) => -1
            pair(0, 0) => IAE
            undo() => 0
            pair(0, 0) => 1
            pair(1, 1) => 2
            pair(0, 1) => 1
            partner(0, 1) => -1
            partner(1, 0) => -1
            partner(0, 0) => 1
            pair(0, 1) => IAE
            pair(2, 2) => IAE
            pair(2, 0) => IAE
            pair(3, 0) => NSEE
            pair(0, 3) => NSEE
            pair(0, -1) => NSEE
            told(10) => 3
            keep(1) => 0
            told(3) => 2
            partner(0, 1) => 0
            pair(1, 1) => 1
            partner(0, 0) => 0
            partner(0, 1) => 1
            told(3) => 2
            """);
        run(35, """
            tell "workers 3;tasks 2;keep 0;fit 0 0;fit 1 0;fit 1 1;pair 1 1;" => 1
            part(1) => 1
            part(1) => IAE
            part(0) => IAE
            part(3) => NSEE
            part(-1) => NSEE
            told(3) => 0
            told(10) => 1
            keep(1) => 0
            part(0) => 0
            partner(0, 0) => 0
            """);
        run(36, """
            weight(0, 99) => 1
            weight(0, 0) => 99
            weight(0, 0) => 0
            told(10) => 3
            weight(0, 100) => IAE
            weight(0, -1) => IAE
            weight(1, 100) => NSEE
            weight(-1, 0) => NSEE
            told(10) => 3
            undo() => 2
            undo() => 1
            weight(0, 3) => 99
            """);
        run(37, """
            tell "workers 3;tasks 3;keep 0;fit 0 0 9;fit 0 1 1;fit 0 2 2;fit 1 1 9;fit 1 0 1;fit 2 2 9;fit 2 0 0;fit 2 1 50;pair 0 0;pair 1 1;pair 2 2;" => 3
            trade() => 16
            partner(0, 0) => 1
            partner(0, 1) => 0
            partner(0, 2) => 2
            told(10) => 1
            trade() => 0
            told(10) => 1
            undo() => 0
            add(0, 2, 1) => 2
            trade() => 17
            partner(0, 0) => 2
            partner(0, 2) => 0
            told(9) => 10
            """);
        run(37, """
            tell "workers 3;tasks 3;keep 0;fit 0 0 9;fit 0 1;fit 1 1 9;fit 1 0;fit 2 2 9;fit 2 0;fit 0 2;pair 0 0;pair 1 1;pair 2 2;" => 3
            trade() => 18
            partner(0, 0) => 1
            part(0) => 1
            trade() => 0
            """);
    }

    private static void keepAndSettle() throws Exception {
        run(38, """
            tell "workers 2;tasks 2;keep 0;fit 0 0;fit 0 1;fit 1 0;pair 0 0;" => 1
            keep(0) => 0
            told(3) => 1
            told(10) => 1
            keep(1) => 0
            told(3) => 2
            told(4) => 1
            partner(0, 0) => 1
            undo() => 1
            told(4) => 0
            told(3) => 1
            keep(1) => 0
            keep(0) => 1
            told(3) => 2
            is(0, 0, 0) => 1
            told(3) => 1
            is(0, 0, 1) => -1
            told(3) => 1
            weight(0, 1) => 1
            told(3) => 1
            keep(2) => IAE
            keep(-1) => IAE
            status(1) => 2
            """);
        run(39, """
            tell "workers 4;tasks 4;keep 0;fit 0 0;fit 0 1;fit 1 0;fit 2 2;fit 3 2;fit 3 3;" => 0
            settle(1) => 1
            partner(0, 0) => 0
            settle(2) => 2
            partner(0, 0) => 1
            partner(0, 1) => 0
            partner(0, 2) => 2
            told(10) => 2
            settle(12) => 1
            told(3) => 4
            settle(12) => 0
            told(10) => 3
            settle(13) => IAE
            settle(0) => IAE
            settle(-1) => IAE
            undo() => 2
            told(3) => 3
            undo() => 1
            told(3) => 1
            undo() => 0
            told(3) => 0
            settle(12) => 4
            """);
    }

    private static void undoAndRest() throws Exception {
        StringBuilder weights = new StringBuilder("undo() => -1\n");
        for (int k = 0; k < 16; k++) {
            weights.append("weight(0, " + (k + 2) + ") => " + (k + 1) + "\n");
        }
        weights.append("told(10) => 15\n");
        for (int k = 14; k >= 0; k--) {
            weights.append("undo() => " + k + "\n");
        }
        weights.append("undo() => -1\n weight(0, 50) => 2\n undo() => 0\n undo() => -1\n");
        run(40, weights.toString());
        run(40, """
            tell "workers 3;tasks 3;fit 0 0 4;fit 1 1 5;fit 0 1;fit 1 0;weight 1 8;pair 0 0;pair 1 1;" => 2
            add(2, 2, 3) => -1
            undo() => 0
            told(2) => 4
            told(3) => 2
            drop(0, 0) => 4
            undo() => 0
            cost(0, 0) => 4
            partner(0, 0) => 0
            partner(0, 1) => 1
            is(0, 0, 0) => 0
            is(1, 1, 0) => 1
            undo() => 1
            undo() => 0
            told(5) => 7
            told(6) => 7
            partner(0, 0) => 0
            pair(0, 1) => 1
            undo() => 0
            partner(0, 0) => 0
            part(1) => 1
            undo() => 0
            partner(0, 1) => 1
            weight(1, 0) => 8
            undo() => 0
            weight(1, 0) => 8
            undo() => 0
            trade() => 9
            undo() => 0
            partner(0, 0) => 0
            keep(0) => 1
            part(0) => 0
            settle(1) => 1
            undo() => 2
            told(3) => 1
            undo() => 1
            undo() => 0
            told(4) => 1
            undo() => -1
            part(2) => IAE
            undo() => -1
            many() => 2
            drop(0, 0) => 4
            many() => 1
            undo() => 0
            many() => 2
            """);
        run(41, """
            print() => 0
            tell "workers 3;tasks 12;keep 0;fit 0 11;fit 2 4;pair 0 11;" => 1
            print() => 2028
            settle(12) => 1
            print() => 2033
            is(0, 0, 0) => 11
            print() => 5
            """);
        run(41, """
            tell "workers 12;tasks 12;fit 0 11;fit 11 0;" => 2
            print() => 21505924728445
            """);
        run(42, """
            status(0) => 0
            status(1) => 0
            partner(0, 5) => NSEE
            wayAt(0) => NSEE
            part(0) => IAE
            text(1) => IAE
            add(5, 5, 500) => NSEE
            undo() => -1
            settle(1) => 0
            status(0) => 3
            status(1) => 2
            status(2) => -1
            status(-1) => -1
            weight(0, 4) => 1
            weight(0, 400) => IAE
            undo() => 0
            status(1) => 3
            tell "workers 2;tasks 2;" => 0
            status(0) => 3
            status(1) => 3
            """);
    }
}
